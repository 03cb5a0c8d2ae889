section
-- ===== PART A: goes FIRST, ahead of the names: the tables' words, and 'selects' of the private methods out of them =====
/-- a private method of a class that the tables say can be made, by its rows of tables_1 -/
def lw_okq (q : MethodName × Nat) : Prop := (q.1.cls ≠ "java/lang/invoke/MethodHandle" ∧ q.1.cls ≠ "java/lang/invoke/VarHandle") ∧ Cond.instantiable q.1.cls q.2 ∈ tables_1 ∧ Cond.privateMethod q.1 ∈ tables_1 ∧ Cond.instanceMethod q.1 ∈ tables_1
theorem lw_p0 : lw_okq (⟨"RigidRanks", "isPair", "(II)Z"⟩, 3) := ⟨⟨by decide +kernel, by decide +kernel⟩, List.mem_of_getElem? (i := 14) (by decide +kernel), List.mem_of_getElem? (i := 111) (by decide +kernel), List.mem_of_getElem? (i := 112) (by decide +kernel)⟩
theorem lw_p1 : lw_okq (⟨"RigidRanks", "matroidOf", "(I)LRigidRanks$Matroid;"⟩, 3) := ⟨⟨by decide +kernel, by decide +kernel⟩, List.mem_of_getElem? (i := 14) (by decide +kernel), List.mem_of_getElem? (i := 169) (by decide +kernel), List.mem_of_getElem? (i := 170) (by decide +kernel)⟩
theorem lw_p2 : lw_okq (⟨"RigidRanks", "makeMatroid", "(I)LRigidRanks$Matroid;"⟩, 3) := ⟨⟨by decide +kernel, by decide +kernel⟩, List.mem_of_getElem? (i := 14) (by decide +kernel), List.mem_of_getElem? (i := 173) (by decide +kernel), List.mem_of_getElem? (i := 174) (by decide +kernel)⟩
theorem lw_p3 : lw_okq (⟨"RigidRanks$Placed", "writeRow", "(LRigidRanks$Sheet;III)V"⟩, 11) := ⟨⟨by decide +kernel, by decide +kernel⟩, List.mem_of_getElem? (i := 177) (by decide +kernel), List.mem_of_getElem? (i := 296) (by decide +kernel), List.mem_of_getElem? (i := 297) (by decide +kernel)⟩
theorem lw_p4 : lw_okq (⟨"RigidRanks$Placed", "noteStress", "(III)V"⟩, 11) := ⟨⟨by decide +kernel, by decide +kernel⟩, List.mem_of_getElem? (i := 177) (by decide +kernel), List.mem_of_getElem? (i := 332) (by decide +kernel), List.mem_of_getElem? (i := 333) (by decide +kernel)⟩
theorem lw_p5 : lw_okq (⟨"RigidRanks$Anywhere", "linkAll", "(I)V"⟩, 8) := ⟨⟨by decide +kernel, by decide +kernel⟩, List.mem_of_getElem? (i := 249) (by decide +kernel), List.mem_of_getElem? (i := 405) (by decide +kernel), List.mem_of_getElem? (i := 406) (by decide +kernel)⟩
theorem lw_p6 : lw_okq (⟨"RigidRanks$Placed", "spanPairs", "(I)V"⟩, 11) := ⟨⟨by decide +kernel, by decide +kernel⟩, List.mem_of_getElem? (i := 177) (by decide +kernel), List.mem_of_getElem? (i := 413) (by decide +kernel), List.mem_of_getElem? (i := 414) (by decide +kernel)⟩
theorem lw_p7 : lw_okq (⟨"RigidRanks$Placed", "takeOut", "(I)Z"⟩, 11) := ⟨⟨by decide +kernel, by decide +kernel⟩, List.mem_of_getElem? (i := 177) (by decide +kernel), List.mem_of_getElem? (i := 420) (by decide +kernel), List.mem_of_getElem? (i := 421) (by decide +kernel)⟩
theorem lw_p8 : lw_okq (⟨"RigidRanks$Placed", "howManyPairs", "()I"⟩, 11) := ⟨⟨by decide +kernel, by decide +kernel⟩, List.mem_of_getElem? (i := 177) (by decide +kernel), List.mem_of_getElem? (i := 424) (by decide +kernel), List.mem_of_getElem? (i := 425) (by decide +kernel)⟩
theorem lw_p9 : lw_okq (⟨"RigidRanks", "lineUp", "(II)Z"⟩, 3) := ⟨⟨by decide +kernel, by decide +kernel⟩, List.mem_of_getElem? (i := 14) (by decide +kernel), List.mem_of_getElem? (i := 595) (by decide +kernel), List.mem_of_getElem? (i := 596) (by decide +kernel)⟩
theorem lw_p10 : lw_okq (⟨"RigidRanks", "staysTogether", "()Z"⟩, 3) := ⟨⟨by decide +kernel, by decide +kernel⟩, List.mem_of_getElem? (i := 14) (by decide +kernel), List.mem_of_getElem? (i := 606) (by decide +kernel), List.mem_of_getElem? (i := 607) (by decide +kernel)⟩
theorem lw_p11 : lw_okq (⟨"RigidRanksModel", "change", "()V"⟩, 24) := ⟨⟨by decide +kernel, by decide +kernel⟩, List.mem_of_getElem? (i := 615) (by decide +kernel), List.mem_of_getElem? (i := 621) (by decide +kernel), List.mem_of_getElem? (i := 622) (by decide +kernel)⟩
theorem lw_p12 : lw_okq (⟨"RigidRanksModel", "isJoint", "(I)Z"⟩, 24) := ⟨⟨by decide +kernel, by decide +kernel⟩, List.mem_of_getElem? (i := 615) (by decide +kernel), List.mem_of_getElem? (i := 710) (by decide +kernel), List.mem_of_getElem? (i := 711) (by decide +kernel)⟩
theorem lw_p13 : lw_okq (⟨"RigidRanksModel", "isSort", "(I)Z"⟩, 24) := ⟨⟨by decide +kernel, by decide +kernel⟩, List.mem_of_getElem? (i := 615) (by decide +kernel), List.mem_of_getElem? (i := 745) (by decide +kernel), List.mem_of_getElem? (i := 746) (by decide +kernel)⟩
theorem lw_p14 : lw_okq (⟨"RigidRanksModel", "isSet", "(I)Z"⟩, 24) := ⟨⟨by decide +kernel, by decide +kernel⟩, List.mem_of_getElem? (i := 615) (by decide +kernel), List.mem_of_getElem? (i := 749) (by decide +kernel), List.mem_of_getElem? (i := 750) (by decide +kernel)⟩
theorem lw_p15 : lw_okq (⟨"RigidRanksModel", "all", "()I"⟩, 24) := ⟨⟨by decide +kernel, by decide +kernel⟩, List.mem_of_getElem? (i := 615) (by decide +kernel), List.mem_of_getElem? (i := 753) (by decide +kernel), List.mem_of_getElem? (i := 754) (by decide +kernel)⟩
def lw_privs_1 : List (MethodName × Nat) := [(⟨"RigidRanks", "isPair", "(II)Z"⟩, 3), (⟨"RigidRanks", "matroidOf", "(I)LRigidRanks$Matroid;"⟩, 3), (⟨"RigidRanks", "makeMatroid", "(I)LRigidRanks$Matroid;"⟩, 3), (⟨"RigidRanks$Placed", "writeRow", "(LRigidRanks$Sheet;III)V"⟩, 11), (⟨"RigidRanks$Placed", "noteStress", "(III)V"⟩, 11), (⟨"RigidRanks$Anywhere", "linkAll", "(I)V"⟩, 8), (⟨"RigidRanks$Placed", "spanPairs", "(I)V"⟩, 11), (⟨"RigidRanks$Placed", "takeOut", "(I)Z"⟩, 11), (⟨"RigidRanks$Placed", "howManyPairs", "()I"⟩, 11), (⟨"RigidRanks", "lineUp", "(II)Z"⟩, 3), (⟨"RigidRanks", "staysTogether", "()Z"⟩, 3), (⟨"RigidRanksModel", "change", "()V"⟩, 24), (⟨"RigidRanksModel", "isJoint", "(I)Z"⟩, 24), (⟨"RigidRanksModel", "isSort", "(I)Z"⟩, 24), (⟨"RigidRanksModel", "isSet", "(I)Z"⟩, 24), (⟨"RigidRanksModel", "all", "()I"⟩, 24)]
theorem lw_r1 : ∀ q ∈ lw_privs_1, lw_okq q := List.forall_mem_cons.mpr ⟨lw_p0, List.forall_mem_cons.mpr ⟨lw_p1, List.forall_mem_cons.mpr ⟨lw_p2, List.forall_mem_cons.mpr ⟨lw_p3, List.forall_mem_cons.mpr ⟨lw_p4, List.forall_mem_cons.mpr ⟨lw_p5, List.forall_mem_cons.mpr ⟨lw_p6, List.forall_mem_cons.mpr ⟨lw_p7, List.forall_mem_cons.mpr ⟨lw_p8, List.forall_mem_cons.mpr ⟨lw_p9, List.forall_mem_cons.mpr ⟨lw_p10, List.forall_mem_cons.mpr ⟨lw_p11, List.forall_mem_cons.mpr ⟨lw_p12, List.forall_mem_cons.mpr ⟨lw_p13, List.forall_mem_cons.mpr ⟨lw_p14, List.forall_mem_cons.mpr ⟨lw_p15, fun _ h => absurd h List.not_mem_nil⟩⟩⟩⟩⟩⟩⟩⟩⟩⟩⟩⟩⟩⟩⟩⟩
theorem lw_p16 : lw_okq (⟨"RigidRanksModel", "rankOf", "(II)I"⟩, 24) := ⟨⟨by decide +kernel, by decide +kernel⟩, List.mem_of_getElem? (i := 615) (by decide +kernel), List.mem_of_getElem? (i := 757) (by decide +kernel), List.mem_of_getElem? (i := 758) (by decide +kernel)⟩
theorem lw_p17 : lw_okq (⟨"RigidRanksModel", "prepare", "(I)V"⟩, 24) := ⟨⟨by decide +kernel, by decide +kernel⟩, List.mem_of_getElem? (i := 615) (by decide +kernel), List.mem_of_getElem? (i := 761) (by decide +kernel), List.mem_of_getElem? (i := 762) (by decide +kernel)⟩
theorem lw_p18 : lw_okq (⟨"RigidRanksModel", "exactRank", "(II)I"⟩, 24) := ⟨⟨by decide +kernel, by decide +kernel⟩, List.mem_of_getElem? (i := 615) (by decide +kernel), List.mem_of_getElem? (i := 765) (by decide +kernel), List.mem_of_getElem? (i := 766) (by decide +kernel)⟩
theorem lw_p19 : lw_okq (⟨"RigidRanksModel", "putSet", "(II)V"⟩, 24) := ⟨⟨by decide +kernel, by decide +kernel⟩, List.mem_of_getElem? (i := 615) (by decide +kernel), List.mem_of_getElem? (i := 769) (by decide +kernel), List.mem_of_getElem? (i := 770) (by decide +kernel)⟩
theorem lw_p20 : lw_okq (⟨"RigidRanksModel", "putRow", "(III)V"⟩, 24) := ⟨⟨by decide +kernel, by decide +kernel⟩, List.mem_of_getElem? (i := 615) (by decide +kernel), List.mem_of_getElem? (i := 773) (by decide +kernel), List.mem_of_getElem? (i := 774) (by decide +kernel)⟩
theorem lw_p21 : lw_okq (⟨"RigidRanksModel", "rankOfRows", "()I"⟩, 24) := ⟨⟨by decide +kernel, by decide +kernel⟩, List.mem_of_getElem? (i := 615) (by decide +kernel), List.mem_of_getElem? (i := 777) (by decide +kernel), List.mem_of_getElem? (i := 778) (by decide +kernel)⟩
theorem lw_p22 : lw_okq (⟨"RigidRanksModel", "rankBy", "(J)I"⟩, 24) := ⟨⟨by decide +kernel, by decide +kernel⟩, List.mem_of_getElem? (i := 615) (by decide +kernel), List.mem_of_getElem? (i := 782) (by decide +kernel), List.mem_of_getElem? (i := 783) (by decide +kernel)⟩
theorem lw_p23 : lw_okq (⟨"RigidRanksModel", "swapRows", "(II)V"⟩, 24) := ⟨⟨by decide +kernel, by decide +kernel⟩, List.mem_of_getElem? (i := 615) (by decide +kernel), List.mem_of_getElem? (i := 789) (by decide +kernel), List.mem_of_getElem? (i := 790) (by decide +kernel)⟩
theorem lw_p24 : lw_okq (⟨"RigidRanksModel", "clearBelow", "(IIJ)V"⟩, 24) := ⟨⟨by decide +kernel, by decide +kernel⟩, List.mem_of_getElem? (i := 615) (by decide +kernel), List.mem_of_getElem? (i := 793) (by decide +kernel), List.mem_of_getElem? (i := 794) (by decide +kernel)⟩
theorem lw_p25 : lw_okq (⟨"RigidRanksModel", "countedRank", "(I)I"⟩, 24) := ⟨⟨by decide +kernel, by decide +kernel⟩, List.mem_of_getElem? (i := 615) (by decide +kernel), List.mem_of_getElem? (i := 802) (by decide +kernel), List.mem_of_getElem? (i := 803) (by decide +kernel)⟩
theorem lw_p26 : lw_okq (⟨"RigidRanksModel", "putPair", "(II)V"⟩, 24) := ⟨⟨by decide +kernel, by decide +kernel⟩, List.mem_of_getElem? (i := 615) (by decide +kernel), List.mem_of_getElem? (i := 806) (by decide +kernel), List.mem_of_getElem? (i := 807) (by decide +kernel)⟩
theorem lw_p27 : lw_okq (⟨"RigidRanksModel", "isFree", "()Z"⟩, 24) := ⟨⟨by decide +kernel, by decide +kernel⟩, List.mem_of_getElem? (i := 615) (by decide +kernel), List.mem_of_getElem? (i := 810) (by decide +kernel), List.mem_of_getElem? (i := 811) (by decide +kernel)⟩
theorem lw_p28 : lw_okq (⟨"RigidRanksModel", "closureOf", "(II)I"⟩, 24) := ⟨⟨by decide +kernel, by decide +kernel⟩, List.mem_of_getElem? (i := 615) (by decide +kernel), List.mem_of_getElem? (i := 821) (by decide +kernel), List.mem_of_getElem? (i := 822) (by decide +kernel)⟩
theorem lw_p29 : lw_okq (⟨"RigidRanksModel", "isImplied", "(IIII)Z"⟩, 24) := ⟨⟨by decide +kernel, by decide +kernel⟩, List.mem_of_getElem? (i := 615) (by decide +kernel), List.mem_of_getElem? (i := 829) (by decide +kernel), List.mem_of_getElem? (i := 830) (by decide +kernel)⟩
theorem lw_p30 : lw_okq (⟨"RigidRanksModel", "tryPair", "(II)Z"⟩, 24) := ⟨⟨by decide +kernel, by decide +kernel⟩, List.mem_of_getElem? (i := 615) (by decide +kernel), List.mem_of_getElem? (i := 833) (by decide +kernel), List.mem_of_getElem? (i := 834) (by decide +kernel)⟩
theorem lw_p31 : lw_okq (⟨"RigidRanksModel", "isRigid", "(I)Z"⟩, 24) := ⟨⟨by decide +kernel, by decide +kernel⟩, List.mem_of_getElem? (i := 615) (by decide +kernel), List.mem_of_getElem? (i := 841) (by decide +kernel), List.mem_of_getElem? (i := 842) (by decide +kernel)⟩
def lw_privs_2 : List (MethodName × Nat) := [(⟨"RigidRanksModel", "rankOf", "(II)I"⟩, 24), (⟨"RigidRanksModel", "prepare", "(I)V"⟩, 24), (⟨"RigidRanksModel", "exactRank", "(II)I"⟩, 24), (⟨"RigidRanksModel", "putSet", "(II)V"⟩, 24), (⟨"RigidRanksModel", "putRow", "(III)V"⟩, 24), (⟨"RigidRanksModel", "rankOfRows", "()I"⟩, 24), (⟨"RigidRanksModel", "rankBy", "(J)I"⟩, 24), (⟨"RigidRanksModel", "swapRows", "(II)V"⟩, 24), (⟨"RigidRanksModel", "clearBelow", "(IIJ)V"⟩, 24), (⟨"RigidRanksModel", "countedRank", "(I)I"⟩, 24), (⟨"RigidRanksModel", "putPair", "(II)V"⟩, 24), (⟨"RigidRanksModel", "isFree", "()Z"⟩, 24), (⟨"RigidRanksModel", "closureOf", "(II)I"⟩, 24), (⟨"RigidRanksModel", "isImplied", "(IIII)Z"⟩, 24), (⟨"RigidRanksModel", "tryPair", "(II)Z"⟩, 24), (⟨"RigidRanksModel", "isRigid", "(I)Z"⟩, 24)]
theorem lw_r2 : ∀ q ∈ lw_privs_2, lw_okq q := List.forall_mem_cons.mpr ⟨lw_p16, List.forall_mem_cons.mpr ⟨lw_p17, List.forall_mem_cons.mpr ⟨lw_p18, List.forall_mem_cons.mpr ⟨lw_p19, List.forall_mem_cons.mpr ⟨lw_p20, List.forall_mem_cons.mpr ⟨lw_p21, List.forall_mem_cons.mpr ⟨lw_p22, List.forall_mem_cons.mpr ⟨lw_p23, List.forall_mem_cons.mpr ⟨lw_p24, List.forall_mem_cons.mpr ⟨lw_p25, List.forall_mem_cons.mpr ⟨lw_p26, List.forall_mem_cons.mpr ⟨lw_p27, List.forall_mem_cons.mpr ⟨lw_p28, List.forall_mem_cons.mpr ⟨lw_p29, List.forall_mem_cons.mpr ⟨lw_p30, List.forall_mem_cons.mpr ⟨lw_p31, fun _ h => absurd h List.not_mem_nil⟩⟩⟩⟩⟩⟩⟩⟩⟩⟩⟩⟩⟩⟩⟩⟩
theorem lw_p32 : lw_okq (⟨"RigidRanksModel", "addPairs", "(III)I"⟩, 24) := ⟨⟨by decide +kernel, by decide +kernel⟩, List.mem_of_getElem? (i := 615) (by decide +kernel), List.mem_of_getElem? (i := 849) (by decide +kernel), List.mem_of_getElem? (i := 850) (by decide +kernel)⟩
theorem lw_p33 : lw_okq (⟨"RigidRanksModel", "spareOf", "(I)I"⟩, 24) := ⟨⟨by decide +kernel, by decide +kernel⟩, List.mem_of_getElem? (i := 615) (by decide +kernel), List.mem_of_getElem? (i := 857) (by decide +kernel), List.mem_of_getElem? (i := 858) (by decide +kernel)⟩
theorem lw_p34 : lw_okq (⟨"RigidRanksModel", "part", "(II)I"⟩, 24) := ⟨⟨by decide +kernel, by decide +kernel⟩, List.mem_of_getElem? (i := 615) (by decide +kernel), List.mem_of_getElem? (i := 865) (by decide +kernel), List.mem_of_getElem? (i := 866) (by decide +kernel)⟩
theorem lw_p35 : lw_okq (⟨"RigidRanksModel", "findParts", "(I)V"⟩, 24) := ⟨⟨by decide +kernel, by decide +kernel⟩, List.mem_of_getElem? (i := 615) (by decide +kernel), List.mem_of_getElem? (i := 869) (by decide +kernel), List.mem_of_getElem? (i := 870) (by decide +kernel)⟩
theorem lw_p36 : lw_okq (⟨"RigidRanksModel", "isCircuit", "(II)Z"⟩, 24) := ⟨⟨by decide +kernel, by decide +kernel⟩, List.mem_of_getElem? (i := 615) (by decide +kernel), List.mem_of_getElem? (i := 873) (by decide +kernel), List.mem_of_getElem? (i := 874) (by decide +kernel)⟩
theorem lw_p37 : lw_okq (⟨"RigidRanksModel", "isKind", "(III)Z"⟩, 24) := ⟨⟨by decide +kernel, by decide +kernel⟩, List.mem_of_getElem? (i := 615) (by decide +kernel), List.mem_of_getElem? (i := 877) (by decide +kernel), List.mem_of_getElem? (i := 878) (by decide +kernel)⟩
theorem lw_p38 : lw_okq (⟨"RigidRanksModel", "isLeastMeeting", "(II)Z"⟩, 24) := ⟨⟨by decide +kernel, by decide +kernel⟩, List.mem_of_getElem? (i := 615) (by decide +kernel), List.mem_of_getElem? (i := 881) (by decide +kernel), List.mem_of_getElem? (i := 882) (by decide +kernel)⟩
theorem lw_p39 : lw_okq (⟨"RigidRanksModel", "isMeeting", "(II)Z"⟩, 24) := ⟨⟨by decide +kernel, by decide +kernel⟩, List.mem_of_getElem? (i := 615) (by decide +kernel), List.mem_of_getElem? (i := 885) (by decide +kernel), List.mem_of_getElem? (i := 886) (by decide +kernel)⟩
theorem lw_p40 : lw_okq (⟨"RigidRanksModel", "isWhole", "(I)Z"⟩, 24) := ⟨⟨by decide +kernel, by decide +kernel⟩, List.mem_of_getElem? (i := 615) (by decide +kernel), List.mem_of_getElem? (i := 907) (by decide +kernel), List.mem_of_getElem? (i := 908) (by decide +kernel)⟩
theorem lw_p41 : lw_okq (⟨"RigidRanksModel", "findStress", "(II)V"⟩, 24) := ⟨⟨by decide +kernel, by decide +kernel⟩, List.mem_of_getElem? (i := 615) (by decide +kernel), List.mem_of_getElem? (i := 915) (by decide +kernel), List.mem_of_getElem? (i := 916) (by decide +kernel)⟩
theorem lw_p42 : lw_okq (⟨"RigidRanksModel", "minorBy", "(IIIJ)J"⟩, 24) := ⟨⟨by decide +kernel, by decide +kernel⟩, List.mem_of_getElem? (i := 615) (by decide +kernel), List.mem_of_getElem? (i := 919) (by decide +kernel), List.mem_of_getElem? (i := 920) (by decide +kernel)⟩
theorem lw_p43 : lw_okq (⟨"RigidRanksModel", "helped", "(I)I"⟩, 24) := ⟨⟨by decide +kernel, by decide +kernel⟩, List.mem_of_getElem? (i := 615) (by decide +kernel), List.mem_of_getElem? (i := 932) (by decide +kernel), List.mem_of_getElem? (i := 933) (by decide +kernel)⟩
theorem lw_p44 : lw_okq (⟨"RigidRanksModel", "isBuilt", "()Z"⟩, 24) := ⟨⟨by decide +kernel, by decide +kernel⟩, List.mem_of_getElem? (i := 615) (by decide +kernel), List.mem_of_getElem? (i := 940) (by decide +kernel), List.mem_of_getElem? (i := 941) (by decide +kernel)⟩
theorem lw_p45 : lw_okq (⟨"RigidRanksModel", "barsBetween", "(II)I"⟩, 24) := ⟨⟨by decide +kernel, by decide +kernel⟩, List.mem_of_getElem? (i := 615) (by decide +kernel), List.mem_of_getElem? (i := 944) (by decide +kernel), List.mem_of_getElem? (i := 945) (by decide +kernel)⟩
theorem lw_p46 : lw_okq (⟨"RigidRanksModel", "nextOrder", "()Z"⟩, 24) := ⟨⟨by decide +kernel, by decide +kernel⟩, List.mem_of_getElem? (i := 615) (by decide +kernel), List.mem_of_getElem? (i := 948) (by decide +kernel), List.mem_of_getElem? (i := 949) (by decide +kernel)⟩
theorem lw_p47 : lw_okq (⟨"RigidRanksModel", "hangs", "(I)Z"⟩, 24) := ⟨⟨by decide +kernel, by decide +kernel⟩, List.mem_of_getElem? (i := 615) (by decide +kernel), List.mem_of_getElem? (i := 956) (by decide +kernel), List.mem_of_getElem? (i := 957) (by decide +kernel)⟩
def lw_privs_3 : List (MethodName × Nat) := [(⟨"RigidRanksModel", "addPairs", "(III)I"⟩, 24), (⟨"RigidRanksModel", "spareOf", "(I)I"⟩, 24), (⟨"RigidRanksModel", "part", "(II)I"⟩, 24), (⟨"RigidRanksModel", "findParts", "(I)V"⟩, 24), (⟨"RigidRanksModel", "isCircuit", "(II)Z"⟩, 24), (⟨"RigidRanksModel", "isKind", "(III)Z"⟩, 24), (⟨"RigidRanksModel", "isLeastMeeting", "(II)Z"⟩, 24), (⟨"RigidRanksModel", "isMeeting", "(II)Z"⟩, 24), (⟨"RigidRanksModel", "isWhole", "(I)Z"⟩, 24), (⟨"RigidRanksModel", "findStress", "(II)V"⟩, 24), (⟨"RigidRanksModel", "minorBy", "(IIIJ)J"⟩, 24), (⟨"RigidRanksModel", "helped", "(I)I"⟩, 24), (⟨"RigidRanksModel", "isBuilt", "()Z"⟩, 24), (⟨"RigidRanksModel", "barsBetween", "(II)I"⟩, 24), (⟨"RigidRanksModel", "nextOrder", "()Z"⟩, 24), (⟨"RigidRanksModel", "hangs", "(I)Z"⟩, 24)]
theorem lw_r3 : ∀ q ∈ lw_privs_3, lw_okq q := List.forall_mem_cons.mpr ⟨lw_p32, List.forall_mem_cons.mpr ⟨lw_p33, List.forall_mem_cons.mpr ⟨lw_p34, List.forall_mem_cons.mpr ⟨lw_p35, List.forall_mem_cons.mpr ⟨lw_p36, List.forall_mem_cons.mpr ⟨lw_p37, List.forall_mem_cons.mpr ⟨lw_p38, List.forall_mem_cons.mpr ⟨lw_p39, List.forall_mem_cons.mpr ⟨lw_p40, List.forall_mem_cons.mpr ⟨lw_p41, List.forall_mem_cons.mpr ⟨lw_p42, List.forall_mem_cons.mpr ⟨lw_p43, List.forall_mem_cons.mpr ⟨lw_p44, List.forall_mem_cons.mpr ⟨lw_p45, List.forall_mem_cons.mpr ⟨lw_p46, List.forall_mem_cons.mpr ⟨lw_p47, fun _ h => absurd h List.not_mem_nil⟩⟩⟩⟩⟩⟩⟩⟩⟩⟩⟩⟩⟩⟩⟩⟩
def lw_privs : List (MethodName × Nat) := lw_privs_1 ++ (lw_privs_2 ++ (lw_privs_3))
def lw_tbl : List Cond := k2_sels lw_privs ++ tables_1
theorem lw_privs_ok : ∀ q ∈ lw_privs, lw_okq q := by
  show ∀ q ∈ lw_privs_1 ++ (lw_privs_2 ++ (lw_privs_3)), lw_okq q
  exact List.forall_mem_append.mpr ⟨lw_r1, List.forall_mem_append.mpr ⟨lw_r2, lw_r3⟩⟩
end
section
def RX0 : String := "RigidRanks$Anywhere"
def TX0 : u_T := fun k => match k with
  | 0 => ("RigidRanks$Matroid", "frame", "LRigidRanks$Frame;", true)
  | 1 => ("RigidRanks$Matroid", "basis", "[I", true)
  | 2 => ("RigidRanks$Matroid", "linked", "[I", true)
  | 3 => ("RigidRanks$Matroid", "parts", "[I", true)
  | 4 => ("RigidRanks$Matroid", "tally", "[I", true)
  | 5 => ("RigidRanks$Matroid", "seen", "I", false)
  | 6 => ("RigidRanks$Anywhere", "inside", "[I", true)
  | _ => ("RigidRanks$Anywhere", "room", "[I", true)
def tyX0 : Nat → FieldType := fun k => match k with
  | 0 => .object "RigidRanks$Frame"
  | 1 => .array .int
  | 2 => .array .int
  | 3 => .array .int
  | 4 => .array .int
  | 5 => .int
  | 6 => .array .int
  | _ => .array .int
abbrev wsX00 : List Cond := u_ws RX0 TX0 8
theorem nmX0 : ∀ a, a < 8 → ∀ b, b < 8 → a ≠ b → (TX0 a).2.1 ≠ (TX0 b).2.1 := by decide +kernel
theorem tyX0_ok : ∀ k, k < 8 → parseFieldDescriptor (TX0 k).2.2.1 = some (tyX0 k) := by decide +kernel
abbrev cX0_init : ByteArray := prog_2_method_1_code
def yX0_init : MethodName := ⟨RX0, "<init>", "(LRigidRanks$Frame;)V"⟩
abbrev cX0_mostInside : ByteArray := prog_2_method_2_code
def yX0_mostInside : MethodName := ⟨RX0, "mostInside", "(I)I"⟩
abbrev cX0_prepare : ByteArray := prog_2_method_3_code
def yX0_prepare : MethodName := ⟨RX0, "prepare", "()V"⟩
abbrev cX0_raises : ByteArray := prog_2_method_4_code
def yX0_raises : MethodName := ⟨RX0, "raises", "(III)Z"⟩
abbrev cX0_link : ByteArray := prog_2_method_5_code
def yX0_link : MethodName := ⟨RX0, "link", "(I)V"⟩
abbrev cX0_linkAll : ByteArray := prog_2_method_6_code
def yX0_linkAll : MethodName := ⟨RX0, "linkAll", "(I)V"⟩
abbrev cX0_lacking : ByteArray := prog_2_method_7_code
def yX0_lacking : MethodName := ⟨RX0, "lacking", "()I"⟩
def RX1 : String := "RigidRanks$Frame"
def TX1 : u_T := fun k => match k with
  | 0 => ("RigidRanks$Frame", "places", "[I", true)
  | 1 => ("RigidRanks$Frame", "low", "[I", true)
  | 2 => ("RigidRanks$Frame", "high", "[I", true)
  | 3 => ("RigidRanks$Frame", "signs", "[I", true)
  | 4 => ("RigidRanks$Frame", "joints", "I", false)
  | 5 => ("RigidRanks$Frame", "bars", "I", false)
  | _ => ("RigidRanks$Frame", "version", "I", false)
def tyX1 : Nat → FieldType := fun k => match k with
  | 0 => .array .int
  | 1 => .array .int
  | 2 => .array .int
  | 3 => .array .int
  | 4 => .int
  | 5 => .int
  | _ => .int
abbrev wsX10 : List Cond := u_ws RX1 TX1 7
theorem nmX1 : ∀ a, a < 7 → ∀ b, b < 7 → a ≠ b → (TX1 a).2.1 ≠ (TX1 b).2.1 := by decide +kernel
theorem tyX1_ok : ∀ k, k < 7 → parseFieldDescriptor (TX1 k).2.2.1 = some (tyX1 k) := by decide +kernel
abbrev cX1_init : ByteArray := prog_3_method_1_code
def yX1_init : MethodName := ⟨RX1, "<init>", "()V"⟩
abbrev cX1_restart : ByteArray := prog_3_method_2_code
def yX1_restart : MethodName := ⟨RX1, "restart", "(I)V"⟩
abbrev cX1_hasJoint : ByteArray := prog_3_method_3_code
def yX1_hasJoint : MethodName := ⟨RX1, "hasJoint", "(I)Z"⟩
abbrev cX1_hasBar : ByteArray := prog_3_method_4_code
def yX1_hasBar : MethodName := ⟨RX1, "hasBar", "(I)Z"⟩
abbrev cX1_hasSet : ByteArray := prog_3_method_5_code
def yX1_hasSet : MethodName := ⟨RX1, "hasSet", "(I)Z"⟩
abbrev cX1_allBars : ByteArray := prog_3_method_6_code
def yX1_allBars : MethodName := ⟨RX1, "allBars", "()I"⟩
abbrev cX1_allJoints : ByteArray := prog_3_method_7_code
def yX1_allJoints : MethodName := ⟨RX1, "allJoints", "()I"⟩
abbrev cX1_move : ByteArray := prog_3_method_8_code
def yX1_move : MethodName := ⟨RX1, "move", "(IIII)Z"⟩
abbrev cX1_isJoined : ByteArray := prog_3_method_9_code
def yX1_isJoined : MethodName := ⟨RX1, "isJoined", "(II)Z"⟩
abbrev cX1_join : ByteArray := prog_3_method_10_code
def yX1_join : MethodName := ⟨RX1, "join", "(II)I"⟩
abbrev cX1_dropLast : ByteArray := prog_3_method_11_code
def yX1_dropLast : MethodName := ⟨RX1, "dropLast", "()I"⟩
abbrev cX1_barsSigned : ByteArray := prog_3_method_12_code
def yX1_barsSigned : MethodName := ⟨RX1, "barsSigned", "(I)I"⟩
abbrev cX1_neighbours : ByteArray := prog_3_method_13_code
def yX1_neighbours : MethodName := ⟨RX1, "neighbours", "(I)I"⟩
abbrev cX1_hangsTogether : ByteArray := prog_3_method_14_code
def yX1_hangsTogether : MethodName := ⟨RX1, "hangsTogether", "(I)Z"⟩
def RX2 : String := "RigidRanks$Matroid"
def TX2 : u_T := fun k => match k with
  | _ => ("", "", "", false)
def tyX2 : Nat → FieldType := fun k => match k with
  | _ => .int
abbrev wsX20 : List Cond := u_ws RX2 TX2 0
theorem nmX2 : ∀ a, a < 0 → ∀ b, b < 0 → a ≠ b → (TX2 a).2.1 ≠ (TX2 b).2.1 := by decide +kernel
theorem tyX2_ok : ∀ k, k < 0 → parseFieldDescriptor (TX2 k).2.2.1 = some (tyX2 k) := by decide +kernel
abbrev cX2_init : ByteArray := prog_4_method_1_code
def yX2_init : MethodName := ⟨RX2, "<init>", "(LRigidRanks$Frame;)V"⟩
abbrev cX2_refresh : ByteArray := prog_4_method_6_code
def yX2_refresh : MethodName := ⟨RX2, "refresh", "()V"⟩
abbrev cX2_grow : ByteArray := prog_4_method_7_code
def yX2_grow : MethodName := ⟨RX2, "grow", "(III)V"⟩
abbrev cX2_completeBases : ByteArray := prog_4_method_8_code
def yX2_completeBases : MethodName := ⟨RX2, "completeBases", "()V"⟩
abbrev cX2_rankOf : ByteArray := prog_4_method_9_code
def yX2_rankOf : MethodName := ⟨RX2, "rankOf", "(I)I"⟩
abbrev cX2_closureOf : ByteArray := prog_4_method_10_code
def yX2_closureOf : MethodName := ⟨RX2, "closureOf", "(I)I"⟩
abbrev cX2_isClosed : ByteArray := prog_4_method_11_code
def yX2_isClosed : MethodName := ⟨RX2, "isClosed", "(I)Z"⟩
abbrev cX2_spareBars : ByteArray := prog_4_method_12_code
def yX2_spareBars : MethodName := ⟨RX2, "spareBars", "()I"⟩
abbrev cX2_isIndependent : ByteArray := prog_4_method_13_code
def yX2_isIndependent : MethodName := ⟨RX2, "isIndependent", "(I)Z"⟩
abbrev cX2_isCircuit : ByteArray := prog_4_method_14_code
def yX2_isCircuit : MethodName := ⟨RX2, "isCircuit", "(I)Z"⟩
abbrev cX2_isSpanning : ByteArray := prog_4_method_15_code
def yX2_isSpanning : MethodName := ⟨RX2, "isSpanning", "(I)Z"⟩
abbrev cX2_meetsBasesBarely : ByteArray := prog_4_method_16_code
def yX2_meetsBasesBarely : MethodName := ⟨RX2, "meetsBasesBarely", "(I)Z"⟩
abbrev cX2_isOfKind : ByteArray := prog_4_method_17_code
def yX2_isOfKind : MethodName := ⟨RX2, "isOfKind", "(II)Z"⟩
abbrev cX2_howManySets : ByteArray := prog_4_method_18_code
def yX2_howManySets : MethodName := ⟨RX2, "howManySets", "(I)I"⟩
abbrev cX2_setAt : ByteArray := prog_4_method_19_code
def yX2_setAt : MethodName := ⟨RX2, "setAt", "(II)I"⟩
abbrev cX2_gatherParts : ByteArray := prog_4_method_20_code
def yX2_gatherParts : MethodName := ⟨RX2, "gatherParts", "()V"⟩
abbrev cX2_isLeastOfPart : ByteArray := prog_4_method_21_code
def yX2_isLeastOfPart : MethodName := ⟨RX2, "isLeastOfPart", "(I)Z"⟩
abbrev cX2_howManyParts : ByteArray := prog_4_method_22_code
def yX2_howManyParts : MethodName := ⟨RX2, "howManyParts", "()I"⟩
abbrev cX2_partAt : ByteArray := prog_4_method_23_code
def yX2_partAt : MethodName := ⟨RX2, "partAt", "(I)I"⟩
abbrev cX2_tallyPowers : ByteArray := prog_4_method_24_code
def yX2_tallyPowers : MethodName := ⟨RX2, "tallyPowers", "()V"⟩
abbrev cX2_coefficientAt : ByteArray := prog_4_method_25_code
def yX2_coefficientAt : MethodName := ⟨RX2, "coefficientAt", "(II)I"⟩
abbrev cX2_choose : ByteArray := prog_4_method_26_code
def yX2_choose : MethodName := ⟨RX2, "choose", "(II)I"⟩
abbrev cX2_areLinked : ByteArray := prog_4_method_27_code
def yX2_areLinked : MethodName := ⟨RX2, "areLinked", "(I)Z"⟩
abbrev cX2_isCluster : ByteArray := prog_4_method_28_code
def yX2_isCluster : MethodName := ⟨RX2, "isCluster", "(I)Z"⟩
abbrev cX2_clusterAt : ByteArray := prog_4_method_29_code
def yX2_clusterAt : MethodName := ⟨RX2, "clusterAt", "(I)I"⟩
def RX3 : String := "RigidRanks$Placed"
def TX3 : u_T := fun k => match k with
  | 0 => ("RigidRanks$Matroid", "frame", "LRigidRanks$Frame;", true)
  | 1 => ("RigidRanks$Matroid", "basis", "[I", true)
  | 2 => ("RigidRanks$Matroid", "linked", "[I", true)
  | 3 => ("RigidRanks$Matroid", "parts", "[I", true)
  | 4 => ("RigidRanks$Matroid", "tally", "[I", true)
  | 5 => ("RigidRanks$Matroid", "seen", "I", false)
  | 6 => ("RigidRanks$Placed", "ways", "I", true)
  | 7 => ("RigidRanks$Placed", "sheets", "[LRigidRanks$Sheet;", true)
  | 8 => ("RigidRanks$Placed", "minors", "[J", true)
  | 9 => ("RigidRanks$Placed", "below", "[I", true)
  | _ => ("RigidRanks$Placed", "pairs", "LRigidRanks$Sheet;", true)
def tyX3 : Nat → FieldType := fun k => match k with
  | 0 => .object "RigidRanks$Frame"
  | 1 => .array .int
  | 2 => .array .int
  | 3 => .array .int
  | 4 => .array .int
  | 5 => .int
  | 6 => .int
  | 7 => .array (.object "RigidRanks$Sheet")
  | 8 => .array .long
  | 9 => .array .int
  | _ => .object "RigidRanks$Sheet"
abbrev wsX30 : List Cond := u_ws RX3 TX3 11
theorem nmX3 : ∀ a, a < 11 → ∀ b, b < 11 → a ≠ b → (TX3 a).2.1 ≠ (TX3 b).2.1 := by decide +kernel
theorem tyX3_ok : ∀ k, k < 11 → parseFieldDescriptor (TX3 k).2.2.1 = some (tyX3 k) := by decide +kernel
abbrev cX3_init : ByteArray := prog_5_method_1_code
def yX3_init : MethodName := ⟨RX3, "<init>", "(LRigidRanks$Frame;I)V"⟩
abbrev cX3_writeRow : ByteArray := prog_5_method_2_code
def yX3_writeRow : MethodName := ⟨RX3, "writeRow", "(LRigidRanks$Sheet;III)V"⟩
abbrev cX3_prepare : ByteArray := prog_5_method_3_code
def yX3_prepare : MethodName := ⟨RX3, "prepare", "()V"⟩
abbrev cX3_raises : ByteArray := prog_5_method_4_code
def yX3_raises : MethodName := ⟨RX3, "raises", "(III)Z"⟩
abbrev cX3_noteStress : ByteArray := prog_5_method_5_code
def yX3_noteStress : MethodName := ⟨RX3, "noteStress", "(III)V"⟩
abbrev cX3_pairRow : ByteArray := prog_5_method_6_code
def yX3_pairRow : MethodName := ⟨RX3, "pairRow", "(II)I"⟩
abbrev cX3_howManyPairs : ByteArray := prog_5_method_7_code
def yX3_howManyPairs : MethodName := ⟨RX3, "howManyPairs", "()I"⟩
abbrev cX3_takeOut : ByteArray := prog_5_method_8_code
def yX3_takeOut : MethodName := ⟨RX3, "takeOut", "(I)Z"⟩
abbrev cX3_spanPairs : ByteArray := prog_5_method_9_code
def yX3_spanPairs : MethodName := ⟨RX3, "spanPairs", "(I)V"⟩
abbrev cX3_link : ByteArray := prog_5_method_10_code
def yX3_link : MethodName := ⟨RX3, "link", "(I)V"⟩
abbrev cX3_lacking : ByteArray := prog_5_method_11_code
def yX3_lacking : MethodName := ⟨RX3, "lacking", "()I"⟩
abbrev cX3_stressSign : ByteArray := prog_5_method_12_code
def yX3_stressSign : MethodName := ⟨RX3, "stressSign", "(II)I"⟩
abbrev cX3_bearsSigns : ByteArray := prog_5_method_13_code
def yX3_bearsSigns : MethodName := ⟨RX3, "bearsSigns", "()Z"⟩
def RX4 : String := "RigidRanks$Residues"
def TX4 : u_T := fun k => match k with
  | _ => ("", "", "", false)
def tyX4 : Nat → FieldType := fun k => match k with
  | _ => .int
abbrev wsX40 : List Cond := u_ws RX4 TX4 0
theorem nmX4 : ∀ a, a < 0 → ∀ b, b < 0 → a ≠ b → (TX4 a).2.1 ≠ (TX4 b).2.1 := by decide +kernel
theorem tyX4_ok : ∀ k, k < 0 → parseFieldDescriptor (TX4 k).2.2.1 = some (tyX4 k) := by decide +kernel
abbrev cX4_of : ByteArray := prog_6_method_2_code
def yX4_of : MethodName := ⟨RX4, "of", "(I)J"⟩
abbrev cX4_isBelowZero : ByteArray := prog_6_method_3_code
def yX4_isBelowZero : MethodName := ⟨RX4, "isBelowZero", "(J)Z"⟩
abbrev cX4_minus : ByteArray := prog_6_method_4_code
def yX4_minus : MethodName := ⟨RX4, "minus", "(JJ)J"⟩
abbrev cX4_times : ByteArray := prog_6_method_5_code
def yX4_times : MethodName := ⟨RX4, "times", "(JJ)J"⟩
abbrev cX4_inverse : ByteArray := prog_6_method_6_code
def yX4_inverse : MethodName := ⟨RX4, "inverse", "(J)J"⟩
def RX5 : String := "RigidRanks$Sheet"
def TX5 : u_T := fun k => match k with
  | 0 => ("RigidRanks$Sheet", "columns", "I", true)
  | 1 => ("RigidRanks$Sheet", "cells", "[J", true)
  | _ => ("RigidRanks$Sheet", "lead", "[J", true)
def tyX5 : Nat → FieldType := fun k => match k with
  | 0 => .int
  | 1 => .array .long
  | _ => .array .long
abbrev wsX50 : List Cond := u_ws RX5 TX5 3
theorem nmX5 : ∀ a, a < 3 → ∀ b, b < 3 → a ≠ b → (TX5 a).2.1 ≠ (TX5 b).2.1 := by decide +kernel
theorem tyX5_ok : ∀ k, k < 3 → parseFieldDescriptor (TX5 k).2.2.1 = some (tyX5 k) := by decide +kernel
abbrev cX5_init : ByteArray := prog_7_method_1_code
def yX5_init : MethodName := ⟨RX5, "<init>", "(II)V"⟩
abbrev cX5_clear : ByteArray := prog_7_method_2_code
def yX5_clear : MethodName := ⟨RX5, "clear", "(I)V"⟩
abbrev cX5_put : ByteArray := prog_7_method_3_code
def yX5_put : MethodName := ⟨RX5, "put", "(III)V"⟩
abbrev cX5_get : ByteArray := prog_7_method_4_code
def yX5_get : MethodName := ⟨RX5, "get", "(II)J"⟩
abbrev cX5_leadColumn : ByteArray := prog_7_method_5_code
def yX5_leadColumn : MethodName := ⟨RX5, "leadColumn", "(I)I"⟩
abbrev cX5_reduceInto : ByteArray := prog_7_method_6_code
def yX5_reduceInto : MethodName := ⟨RX5, "reduceInto", "(LRigidRanks$Sheet;III)Z"⟩
def RX6 : String := "RigidRanks"
def TX6 : u_T := fun k => match k with
  | 0 => ("RigidRanks", "frame", "LRigidRanks$Frame;", true)
  | 1 => ("RigidRanks", "matroids", "[LRigidRanks$Matroid;", true)
  | _ => ("RigidRanks", "order", "[I", true)
def tyX6 : Nat → FieldType := fun k => match k with
  | 0 => .object "RigidRanks$Frame"
  | 1 => .array (.object "RigidRanks$Matroid")
  | _ => .array .int
abbrev wsX60 : List Cond := u_ws RX6 TX6 3
theorem nmX6 : ∀ a, a < 3 → ∀ b, b < 3 → a ≠ b → (TX6 a).2.1 ≠ (TX6 b).2.1 := by decide +kernel
theorem tyX6_ok : ∀ k, k < 3 → parseFieldDescriptor (TX6 k).2.2.1 = some (tyX6 k) := by decide +kernel
abbrev cX6_init : ByteArray := prog_1_method_1_code
def yX6_init : MethodName := ⟨RX6, "<init>", "()V"⟩
abbrev cX6_begin : ByteArray := prog_1_method_2_code
def yX6_begin : MethodName := ⟨RX6, "begin", "(I)I"⟩
abbrev cX6_joint : ByteArray := prog_1_method_3_code
def yX6_joint : MethodName := ⟨RX6, "joint", "(IIII)I"⟩
abbrev cX6_bar : ByteArray := prog_1_method_4_code
def yX6_bar : MethodName := ⟨RX6, "bar", "(II)I"⟩
abbrev cX6_unbar : ByteArray := prog_1_method_5_code
def yX6_unbar : MethodName := ⟨RX6, "unbar", "()I"⟩
abbrev cX6_sign : ByteArray := prog_1_method_6_code
def yX6_sign : MethodName := ⟨RX6, "sign", "(II)I"⟩
abbrev cX6_count : ByteArray := prog_1_method_7_code
def yX6_count : MethodName := ⟨RX6, "count", "(I)I"⟩
abbrev cX6_end : ByteArray := prog_1_method_8_code
def yX6_end : MethodName := ⟨RX6, "end", "(II)I"⟩
abbrev cX6_at : ByteArray := prog_1_method_9_code
def yX6_at : MethodName := ⟨RX6, "at", "(II)I"⟩
abbrev cX6_rank : ByteArray := prog_1_method_10_code
def yX6_rank : MethodName := ⟨RX6, "rank", "(II)I"⟩
abbrev cX6_closure : ByteArray := prog_1_method_11_code
def yX6_closure : MethodName := ⟨RX6, "closure", "(II)I"⟩
abbrev cX6_implied : ByteArray := prog_1_method_12_code
def yX6_implied : MethodName := ⟨RX6, "implied", "(IIII)I"⟩
abbrev cX6_rigid : ByteArray := prog_1_method_13_code
def yX6_rigid : MethodName := ⟨RX6, "rigid", "(I)I"⟩
abbrev cX6_lacks : ByteArray := prog_1_method_14_code
def yX6_lacks : MethodName := ⟨RX6, "lacks", "(I)I"⟩
abbrev cX6_spare : ByteArray := prog_1_method_15_code
def yX6_spare : MethodName := ⟨RX6, "spare", "(I)I"⟩
abbrev cX6_many : ByteArray := prog_1_method_16_code
def yX6_many : MethodName := ⟨RX6, "many", "(II)I"⟩
abbrev cX6_told : ByteArray := prog_1_method_17_code
def yX6_told : MethodName := ⟨RX6, "told", "(III)I"⟩
abbrev cX6_coefficient : ByteArray := prog_1_method_18_code
def yX6_coefficient : MethodName := ⟨RX6, "coefficient", "(III)I"⟩
abbrev cX6_cluster : ByteArray := prog_1_method_19_code
def yX6_cluster : MethodName := ⟨RX6, "cluster", "(II)I"⟩
abbrev cX6_stressed : ByteArray := prog_1_method_20_code
def yX6_stressed : MethodName := ⟨RX6, "stressed", "(III)I"⟩
abbrev cX6_holds : ByteArray := prog_1_method_21_code
def yX6_holds : MethodName := ⟨RX6, "holds", "(I)I"⟩
abbrev cX6_built : ByteArray := prog_1_method_22_code
def yX6_built : MethodName := ⟨RX6, "built", "(I)I"⟩
abbrev cX6_oneShape : ByteArray := prog_1_method_23_code
def yX6_oneShape : MethodName := ⟨RX6, "oneShape", "()I"⟩
abbrev cX6_isTooFar : ByteArray := prog_1_method_24_code
def yX6_isTooFar : MethodName := ⟨RX6, "isTooFar", "(I)Z"⟩
abbrev cX6_isPair : ByteArray := prog_1_method_25_code
def yX6_isPair : MethodName := ⟨RX6, "isPair", "(II)Z"⟩
abbrev cX6_matroidOf : ByteArray := prog_1_method_26_code
def yX6_matroidOf : MethodName := ⟨RX6, "matroidOf", "(I)LRigidRanks$Matroid;"⟩
abbrev cX6_makeMatroid : ByteArray := prog_1_method_27_code
def yX6_makeMatroid : MethodName := ⟨RX6, "makeMatroid", "(I)LRigidRanks$Matroid;"⟩
abbrev cX6_lineUp : ByteArray := prog_1_method_28_code
def yX6_lineUp : MethodName := ⟨RX6, "lineUp", "(II)Z"⟩
abbrev cX6_staysTogether : ByteArray := prog_1_method_29_code
def yX6_staysTogether : MethodName := ⟨RX6, "staysTogether", "()Z"⟩
def RX7 : String := "RigidRanksModel"
def TX7 : u_T := fun k => match k with
  | 0 => ("RigidRanksModel", "n", "I", false)
  | 1 => ("RigidRanksModel", "place", "[I", true)
  | 2 => ("RigidRanksModel", "bars", "I", false)
  | 3 => ("RigidRanksModel", "endA", "[I", true)
  | 4 => ("RigidRanksModel", "endB", "[I", true)
  | 5 => ("RigidRanksModel", "signs", "[I", true)
  | 6 => ("RigidRanksModel", "ranks", "[I", true)
  | 7 => ("RigidRanksModel", "isReady", "[Z", true)
  | 8 => ("RigidRanksModel", "cells", "[J", true)
  | 9 => ("RigidRanksModel", "rows", "I", false)
  | 10 => ("RigidRanksModel", "columns", "I", false)
  | 11 => ("RigidRanksModel", "work", "[J", true)
  | 12 => ("RigidRanksModel", "pivot", "[I", true)
  | 13 => ("RigidRanksModel", "product", "J", false)
  | 14 => ("RigidRanksModel", "pairA", "[I", true)
  | 15 => ("RigidRanksModel", "pairB", "[I", true)
  | 16 => ("RigidRanksModel", "pairs", "I", false)
  | 17 => ("RigidRanksModel", "partOf", "[I", true)
  | 18 => ("RigidRanksModel", "partMany", "I", false)
  | 19 => ("RigidRanksModel", "isPair", "[Z", true)
  | 20 => ("RigidRanksModel", "stress", "[J", true)
  | 21 => ("RigidRanksModel", "column", "[I", true)
  | 22 => ("RigidRanksModel", "chosen", "[J", true)
  | _ => ("RigidRanksModel", "order", "[I", true)
def tyX7 : Nat → FieldType := fun k => match k with
  | 0 => .int
  | 1 => .array .int
  | 2 => .int
  | 3 => .array .int
  | 4 => .array .int
  | 5 => .array .int
  | 6 => .array .int
  | 7 => .array .boolean
  | 8 => .array .long
  | 9 => .int
  | 10 => .int
  | 11 => .array .long
  | 12 => .array .int
  | 13 => .long
  | 14 => .array .int
  | 15 => .array .int
  | 16 => .int
  | 17 => .array .int
  | 18 => .int
  | 19 => .array .boolean
  | 20 => .array .long
  | 21 => .array .int
  | 22 => .array .long
  | _ => .array .int
abbrev wsX70 : List Cond := u_ws RX7 TX7 24
theorem nmX7 : ∀ a, a < 24 → ∀ b, b < 24 → a ≠ b → (TX7 a).2.1 ≠ (TX7 b).2.1 := by decide +kernel
theorem tyX7_ok : ∀ k, k < 24 → parseFieldDescriptor (TX7 k).2.2.1 = some (tyX7 k) := by decide +kernel
abbrev cX7_isIn : ByteArray := prog_9_method_1_code
def yX7_isIn : MethodName := ⟨RX7, "isIn", "(III)Z"⟩
abbrev cX7_init : ByteArray := prog_9_method_2_code
def yX7_init : MethodName := ⟨RX7, "<init>", "()V"⟩
abbrev cX7_change : ByteArray := prog_9_method_3_code
def yX7_change : MethodName := ⟨RX7, "change", "()V"⟩
abbrev cX7_begin : ByteArray := prog_9_method_4_code
def yX7_begin : MethodName := ⟨RX7, "begin", "(I)I"⟩
abbrev cX7_isJoint : ByteArray := prog_9_method_5_code
def yX7_isJoint : MethodName := ⟨RX7, "isJoint", "(I)Z"⟩
abbrev cX7_isWay : ByteArray := prog_9_method_6_code
def yX7_isWay : MethodName := ⟨RX7, "isWay", "(I)Z"⟩
abbrev cX7_joint : ByteArray := prog_9_method_7_code
def yX7_joint : MethodName := ⟨RX7, "joint", "(IIII)I"⟩
abbrev cX7_bar : ByteArray := prog_9_method_8_code
def yX7_bar : MethodName := ⟨RX7, "bar", "(II)I"⟩
abbrev cX7_unbar : ByteArray := prog_9_method_9_code
def yX7_unbar : MethodName := ⟨RX7, "unbar", "()I"⟩
abbrev cX7_sign : ByteArray := prog_9_method_10_code
def yX7_sign : MethodName := ⟨RX7, "sign", "(II)I"⟩
abbrev cX7_count : ByteArray := prog_9_method_11_code
def yX7_count : MethodName := ⟨RX7, "count", "(I)I"⟩
abbrev cX7_end : ByteArray := prog_9_method_12_code
def yX7_end : MethodName := ⟨RX7, "end", "(II)I"⟩
abbrev cX7_at : ByteArray := prog_9_method_13_code
def yX7_at : MethodName := ⟨RX7, "at", "(II)I"⟩
abbrev cX7_left : ByteArray := prog_9_method_14_code
def yX7_left : MethodName := ⟨RX7, "left", "(JJ)J"⟩
abbrev cX7_putRow : ByteArray := prog_9_method_15_code
def yX7_putRow : MethodName := ⟨RX7, "putRow", "(III)V"⟩
abbrev cX7_putSet : ByteArray := prog_9_method_16_code
def yX7_putSet : MethodName := ⟨RX7, "putSet", "(II)V"⟩
abbrev cX7_inverse : ByteArray := prog_9_method_17_code
def yX7_inverse : MethodName := ⟨RX7, "inverse", "(JJ)J"⟩
abbrev cX7_swapRows : ByteArray := prog_9_method_18_code
def yX7_swapRows : MethodName := ⟨RX7, "swapRows", "(II)V"⟩
abbrev cX7_rankBy : ByteArray := prog_9_method_19_code
def yX7_rankBy : MethodName := ⟨RX7, "rankBy", "(J)I"⟩
abbrev cX7_clearBelow : ByteArray := prog_9_method_20_code
def yX7_clearBelow : MethodName := ⟨RX7, "clearBelow", "(IIJ)V"⟩
abbrev cX7_rankOfRows : ByteArray := prog_9_method_21_code
def yX7_rankOfRows : MethodName := ⟨RX7, "rankOfRows", "()I"⟩
abbrev cX7_ones : ByteArray := prog_9_method_22_code
def yX7_ones : MethodName := ⟨RX7, "ones", "(I)I"⟩
abbrev cX7_isFree : ByteArray := prog_9_method_23_code
def yX7_isFree : MethodName := ⟨RX7, "isFree", "()Z"⟩
abbrev cX7_putPair : ByteArray := prog_9_method_24_code
def yX7_putPair : MethodName := ⟨RX7, "putPair", "(II)V"⟩
abbrev cX7_tryPair : ByteArray := prog_9_method_25_code
def yX7_tryPair : MethodName := ⟨RX7, "tryPair", "(II)Z"⟩
abbrev cX7_prepare : ByteArray := prog_9_method_26_code
def yX7_prepare : MethodName := ⟨RX7, "prepare", "(I)V"⟩
abbrev cX7_exactRank : ByteArray := prog_9_method_27_code
def yX7_exactRank : MethodName := ⟨RX7, "exactRank", "(II)I"⟩
abbrev cX7_countedRank : ByteArray := prog_9_method_28_code
def yX7_countedRank : MethodName := ⟨RX7, "countedRank", "(I)I"⟩
abbrev cX7_all : ByteArray := prog_9_method_29_code
def yX7_all : MethodName := ⟨RX7, "all", "()I"⟩
abbrev cX7_isSort : ByteArray := prog_9_method_30_code
def yX7_isSort : MethodName := ⟨RX7, "isSort", "(I)Z"⟩
abbrev cX7_isSet : ByteArray := prog_9_method_31_code
def yX7_isSet : MethodName := ⟨RX7, "isSet", "(I)Z"⟩
abbrev cX7_rankOf : ByteArray := prog_9_method_32_code
def yX7_rankOf : MethodName := ⟨RX7, "rankOf", "(II)I"⟩
abbrev cX7_rank : ByteArray := prog_9_method_33_code
def yX7_rank : MethodName := ⟨RX7, "rank", "(II)I"⟩
abbrev cX7_closureOf : ByteArray := prog_9_method_34_code
def yX7_closureOf : MethodName := ⟨RX7, "closureOf", "(II)I"⟩
abbrev cX7_closure : ByteArray := prog_9_method_35_code
def yX7_closure : MethodName := ⟨RX7, "closure", "(II)I"⟩
abbrev cX7_isImplied : ByteArray := prog_9_method_36_code
def yX7_isImplied : MethodName := ⟨RX7, "isImplied", "(IIII)Z"⟩
abbrev cX7_implied : ByteArray := prog_9_method_37_code
def yX7_implied : MethodName := ⟨RX7, "implied", "(IIII)I"⟩
abbrev cX7_isRigid : ByteArray := prog_9_method_38_code
def yX7_isRigid : MethodName := ⟨RX7, "isRigid", "(I)Z"⟩
abbrev cX7_rigid : ByteArray := prog_9_method_39_code
def yX7_rigid : MethodName := ⟨RX7, "rigid", "(I)I"⟩
abbrev cX7_lacks : ByteArray := prog_9_method_40_code
def yX7_lacks : MethodName := ⟨RX7, "lacks", "(I)I"⟩
abbrev cX7_addPairs : ByteArray := prog_9_method_41_code
def yX7_addPairs : MethodName := ⟨RX7, "addPairs", "(III)I"⟩
abbrev cX7_spareOf : ByteArray := prog_9_method_42_code
def yX7_spareOf : MethodName := ⟨RX7, "spareOf", "(I)I"⟩
abbrev cX7_spare : ByteArray := prog_9_method_43_code
def yX7_spare : MethodName := ⟨RX7, "spare", "(I)I"⟩
abbrev cX7_isCircuit : ByteArray := prog_9_method_44_code
def yX7_isCircuit : MethodName := ⟨RX7, "isCircuit", "(II)Z"⟩
abbrev cX7_isMeeting : ByteArray := prog_9_method_45_code
def yX7_isMeeting : MethodName := ⟨RX7, "isMeeting", "(II)Z"⟩
abbrev cX7_isLeastMeeting : ByteArray := prog_9_method_46_code
def yX7_isLeastMeeting : MethodName := ⟨RX7, "isLeastMeeting", "(II)Z"⟩
abbrev cX7_isKind : ByteArray := prog_9_method_47_code
def yX7_isKind : MethodName := ⟨RX7, "isKind", "(III)Z"⟩
abbrev cX7_findParts : ByteArray := prog_9_method_48_code
def yX7_findParts : MethodName := ⟨RX7, "findParts", "(I)V"⟩
abbrev cX7_part : ByteArray := prog_9_method_49_code
def yX7_part : MethodName := ⟨RX7, "part", "(II)I"⟩
abbrev cX7_many : ByteArray := prog_9_method_50_code
def yX7_many : MethodName := ⟨RX7, "many", "(II)I"⟩
abbrev cX7_told : ByteArray := prog_9_method_51_code
def yX7_told : MethodName := ⟨RX7, "told", "(III)I"⟩
abbrev cX7_choose : ByteArray := prog_9_method_52_code
def yX7_choose : MethodName := ⟨RX7, "choose", "(II)I"⟩
abbrev cX7_term : ByteArray := prog_9_method_53_code
def yX7_term : MethodName := ⟨RX7, "term", "(II)I"⟩
abbrev cX7_coefficient : ByteArray := prog_9_method_54_code
def yX7_coefficient : MethodName := ⟨RX7, "coefficient", "(III)I"⟩
abbrev cX7_isWhole : ByteArray := prog_9_method_55_code
def yX7_isWhole : MethodName := ⟨RX7, "isWhole", "(I)Z"⟩
abbrev cX7_cluster : ByteArray := prog_9_method_56_code
def yX7_cluster : MethodName := ⟨RX7, "cluster", "(II)I"⟩
abbrev cX7_minorBy : ByteArray := prog_9_method_57_code
def yX7_minorBy : MethodName := ⟨RX7, "minorBy", "(IIIJ)J"⟩
abbrev cX7_together : ByteArray := prog_9_method_58_code
def yX7_together : MethodName := ⟨RX7, "together", "(JJ)J"⟩
abbrev cX7_findStress : ByteArray := prog_9_method_59_code
def yX7_findStress : MethodName := ⟨RX7, "findStress", "(II)V"⟩
abbrev cX7_stressed : ByteArray := prog_9_method_60_code
def yX7_stressed : MethodName := ⟨RX7, "stressed", "(III)I"⟩
abbrev cX7_helped : ByteArray := prog_9_method_61_code
def yX7_helped : MethodName := ⟨RX7, "helped", "(I)I"⟩
abbrev cX7_holds : ByteArray := prog_9_method_62_code
def yX7_holds : MethodName := ⟨RX7, "holds", "(I)I"⟩
abbrev cX7_barsBetween : ByteArray := prog_9_method_63_code
def yX7_barsBetween : MethodName := ⟨RX7, "barsBetween", "(II)I"⟩
abbrev cX7_isBuilt : ByteArray := prog_9_method_64_code
def yX7_isBuilt : MethodName := ⟨RX7, "isBuilt", "()Z"⟩
abbrev cX7_nextOrder : ByteArray := prog_9_method_65_code
def yX7_nextOrder : MethodName := ⟨RX7, "nextOrder", "()Z"⟩
abbrev cX7_built : ByteArray := prog_9_method_66_code
def yX7_built : MethodName := ⟨RX7, "built", "(I)I"⟩
abbrev cX7_hangs : ByteArray := prog_9_method_67_code
def yX7_hangs : MethodName := ⟨RX7, "hangs", "(I)Z"⟩
abbrev cX7_oneShape : ByteArray := prog_9_method_68_code
def yX7_oneShape : MethodName := ⟨RX7, "oneShape", "()I"⟩
def RJ6 : String := "java/lang/Integer"
def TJ6 : u_T := fun k => match k with
  | _ => ("", "", "", false)
def tyJ6 : Nat → FieldType := fun k => match k with
  | _ => .int
abbrev wsJ60 : List Cond := u_ws RJ6 TJ6 0
theorem nmJ6 : ∀ a, a < 0 → ∀ b, b < 0 → a ≠ b → (TJ6 a).2.1 ≠ (TJ6 b).2.1 := by decide +kernel
theorem tyJ6_ok : ∀ k, k < 0 → parseFieldDescriptor (TJ6 k).2.2.1 = some (tyJ6 k) := by decide +kernel
abbrev cJ6_bitCount_0f7a4 : ByteArray := prog_10_method_49_code
def yJ6_bitCount_0f7a4 : MethodName := ⟨RJ6, "bitCount", "(I)I"⟩
def RJ9 : String := "java/lang/Math"
def TJ9 : u_T := fun k => match k with
  | _ => ("", "", "", false)
def tyJ9 : Nat → FieldType := fun k => match k with
  | _ => .int
abbrev wsJ90 : List Cond := u_ws RJ9 TJ9 0
theorem nmJ9 : ∀ a, a < 0 → ∀ b, b < 0 → a ≠ b → (TJ9 a).2.1 ≠ (TJ9 b).2.1 := by decide +kernel
theorem tyJ9_ok : ∀ k, k < 0 → parseFieldDescriptor (TJ9 k).2.2.1 = some (tyJ9 k) := by decide +kernel
abbrev cJ9_max_7cf53 : ByteArray := prog_11_method_65_code
def yJ9_max_7cf53 : MethodName := ⟨RJ9, "max", "(II)I"⟩
abbrev cJ9_min_7cf53 : ByteArray := prog_11_method_69_code
def yJ9_min_7cf53 : MethodName := ⟨RJ9, "min", "(II)I"⟩
def RJ10 : String := "java/lang/System"
def TJ10 : u_T := fun k => match k with
  | _ => ("", "", "", false)
def tyJ10 : Nat → FieldType := fun k => match k with
  | _ => .int
abbrev wsJ100 : List Cond := u_ws RJ10 TJ10 0
theorem nmJ10 : ∀ a, a < 0 → ∀ b, b < 0 → a ≠ b → (TJ10 a).2.1 ≠ (TJ10 b).2.1 := by decide +kernel
theorem tyJ10_ok : ∀ k, k < 0 → parseFieldDescriptor (TJ10 k).2.2.1 = some (tyJ10 k) := by decide +kernel
def RJ7 : String := "java/util/Arrays"
def TJ7 : u_T := fun k => match k with
  | _ => ("", "", "", false)
def tyJ7 : Nat → FieldType := fun k => match k with
  | _ => .int
abbrev wsJ70 : List Cond := u_ws RJ7 TJ7 0
theorem nmJ7 : ∀ a, a < 0 → ∀ b, b < 0 → a ≠ b → (TJ7 a).2.1 ≠ (TJ7 b).2.1 := by decide +kernel
theorem tyJ7_ok : ∀ k, k < 0 → parseFieldDescriptor (TJ7 k).2.2.1 = some (tyJ7 k) := by decide +kernel
abbrev cJ7_fill_53178 : ByteArray := prog_13_method_103_code
def yJ7_fill_53178 : MethodName := ⟨RJ7, "fill", "([II)V"⟩
def RL : String := "RigidRanksLaw"
abbrev cL_law : ByteArray := code
def yL_law : MethodName := ⟨RL, "law", "([I)Z"⟩
abbrev vwCl : List vw_C := [(RX0, TX0, 8), (RX1, TX1, 7), (RX3, TX3, 11), (RX5, TX5, 3), (RX6, TX6, 3), (RX7, TX7, 24)]
end
section
/-! THE SMALL MACHINE, its locals: a row of values by their places, none where nothing is known -/
abbrev zL : Type := List (Option Value)
def zget (L : zL) (i : Nat) : Option Value := (L[i]?).join
def zcut (L : zL) (i : Nat) : zL := match i with
  | 0 => L
  | j + 1 => match zget L j with
    | some v => if v.category = 2 then L.set j none else L
    | none => L
def zst1 (L : zL) (i : Nat) (v : Value) : zL := (zcut L i).set i (some v)
def zst2 (L : zL) (i : Nat) (v : Value) : zL := ((zcut L i).set i (some v)).set (i + 1) none
def zas : Nat → zL → List (Nat × Value)
  | _, [] => []
  | k, none :: L => zas (k + 1) L
  | k, some v :: L => (k, v) :: zas (k + 1) L
theorem zas_mem : ∀ (L : zL) (k i : Nat) (v : Value), (i, v) ∈ zas k L ↔ k ≤ i ∧ zget L (i - k) = some v
  | [], k, i, v => by simp [zas, zget]
  | none :: L, k, i, v => by
    rw [zas, zas_mem L (k + 1) i v]
    constructor
    · rintro ⟨h1, h2⟩
      refine ⟨by omega, ?_⟩
      rw [show i - k = (i - (k + 1)) + 1 by omega]
      simpa [zget] using h2
    · rintro ⟨h1, h2⟩
      by_cases hk : i = k
      · subst hk
        simp [zget] at h2
      · refine ⟨by omega, ?_⟩
        rw [show i - k = (i - (k + 1)) + 1 by omega] at h2
        simpa [zget] using h2
  | some u :: L, k, i, v => by
    rw [zas, List.mem_cons, zas_mem L (k + 1) i v]
    constructor
    · rintro (h | ⟨h1, h2⟩)
      · obtain ⟨rfl, rfl⟩ := Prod.mk.inj h
        simp [zget]
      · refine ⟨by omega, ?_⟩
        rw [show i - k = (i - (k + 1)) + 1 by omega]
        simpa [zget] using h2
    · rintro ⟨h1, h2⟩
      by_cases hk : i = k
      · subst hk
        simp [zget] at h2
        exact Or.inl (by rw [h2])
      · right
        refine ⟨by omega, ?_⟩
        rw [show i - k = (i - (k + 1)) + 1 by omega] at h2
        simpa [zget] using h2
theorem zas_mem0 {L : zL} {i : Nat} {v : Value} : (i, v) ∈ zas 0 L ↔ zget L i = some v := by
  rw [zas_mem]
  simp
def zR (ls : Array Slot) (nL : Nat) (L : zL) : Prop := lv_has ls nL (zas 0 L)
theorem zR.get {ls : Array Slot} {nL : Nat} {L : zL} (h : zR ls nL L) {i : Nat} {v : Value} (hv : zget L i = some v) : ls[i]? = some (.val v) := h.2.2 (i, v) (zas_mem0.mpr hv)
theorem lv_more {ls : Array Slot} {nL : Nat} {l l' : List (Nat × Value)} (h : lv_has ls nL l) (hl : ∀ q ∈ l', q ∈ l) : lv_has ls nL l' := ⟨h.1, h.2.1, fun q hq => h.2.2 q (hl q hq)⟩
theorem zget_set_self {L : zL} {i : Nat} {x : Option Value} {v : Value} (h : zget (L.set i x) i = some v) : x = some v := by
  unfold zget at h
  rw [List.getElem?_set] at h
  simp at h
  split at h
  · simpa using h
  · simp at h
theorem zget_set_ne {L : zL} {i j : Nat} {x : Option Value} (hj : j ≠ i) : zget (L.set i x) j = zget L j := by
  unfold zget
  rw [List.getElem?_set, if_neg (fun e => hj e.symm)]
theorem zget_cut {L : zL} {i j : Nat} {v : Value} (h : zget (zcut L i) j = some v) : zget L j = some v ∧ (j + 1 = i → v.category ≠ 2) := by
  cases i with
  | zero => exact ⟨h, fun e => by omega⟩
  | succ k =>
    simp only [zcut] at h
    cases hk : zget L k with
    | none =>
      rw [hk] at h
      refine ⟨h, fun e => ?_⟩
      obtain rfl : j = k := by omega
      rw [hk] at h
      cases h
    | some u =>
      rw [hk] at h
      by_cases hc : u.category = 2
      · simp only [hc, if_true] at h
        by_cases hj : j = k
        · subst hj
          have := zget_set_self h
          cases this
        · rw [zget_set_ne hj] at h
          exact ⟨h, fun e => by omega⟩
      · simp only [hc, if_false] at h
        refine ⟨h, fun e => ?_⟩
        obtain rfl : j = k := by omega
        rw [hk] at h
        cases h
        exact hc
theorem zas_st1 {L : zL} {i : Nat} {v : Value} : ∀ q ∈ zas 0 (zst1 L i v), q ∈ (i, v) :: (zas 0 L).filter (fun q => !(q.1 == i) && !(q.1 + 1 == i && q.2.category == 2)) := by
  rintro ⟨j, u⟩ hq
  rw [zas_mem0] at hq
  unfold zst1 at hq
  by_cases hj : j = i
  · subst hj
    have := zget_set_self hq
    cases this
    exact List.mem_cons_self
  · rw [zget_set_ne hj] at hq
    obtain ⟨h1, h2⟩ := zget_cut hq
    refine List.mem_cons_of_mem _ (List.mem_filter.mpr ⟨zas_mem0.mpr h1, ?_⟩)
    simp only [Bool.and_eq_true, Bool.not_eq_true', beq_eq_false_iff_ne, Bool.and_eq_false_imp, beq_iff_eq]
    exact ⟨hj, fun e => h2 e⟩
theorem zas_st2 {L : zL} {i : Nat} {v : Value} : ∀ q ∈ zas 0 (zst2 L i v), q ∈ (i, v) :: (zas 0 L).filter (fun q => !(q.1 == i) && (!(q.1 == i + 1) && !(q.1 + 1 == i && q.2.category == 2))) := by
  rintro ⟨j, u⟩ hq
  rw [zas_mem0] at hq
  unfold zst2 at hq
  by_cases hk : j = i + 1
  · subst hk
    have := zget_set_self hq
    cases this
  rw [zget_set_ne hk] at hq
  by_cases hj : j = i
  · subst hj
    have := zget_set_self hq
    cases this
    exact List.mem_cons_self
  · rw [zget_set_ne hj] at hq
    obtain ⟨h1, h2⟩ := zget_cut hq
    refine List.mem_cons_of_mem _ (List.mem_filter.mpr ⟨zas_mem0.mpr h1, ?_⟩)
    simp only [Bool.and_eq_true, Bool.not_eq_true', beq_eq_false_iff_ne, Bool.and_eq_false_imp, beq_iff_eq]
    exact ⟨hj, hk, fun e => h2 e⟩
theorem zR.st1 {ls : Array Slot} {nL : Nat} {L : zL} {i : Nat} {v : Value} (h : lv_has ls nL ((i, v) :: (zas 0 L).filter (fun q => !(q.1 == i) && !(q.1 + 1 == i && q.2.category == 2)))) : zR ls nL (zst1 L i v) := lv_more h zas_st1
theorem zR.st2 {ls : Array Slot} {nL : Nat} {L : zL} {i : Nat} {v : Value} (h : lv_has ls nL ((i, v) :: (zas 0 L).filter (fun q => !(q.1 == i) && (!(q.1 == i + 1) && !(q.1 + 1 == i && q.2.category == 2))))) : zR ls nL (zst2 L i v) := lv_more h zas_st2
/-- fewer known locals -/
theorem zR.less {ls : Array Slot} {nL : Nat} {L L' : zL} (h : zR ls nL L) (hl : ∀ i v, zget L' i = some v → zget L i = some v) : zR ls nL L' := lv_more h (fun q hq => by
  obtain ⟨j, u⟩ := q
  exact zas_mem0.mpr (hl j u (zas_mem0.mp hq)))
/-- the locals at a method's entry -/
def zen : List Value → zL
  | [] => []
  | v :: vs => if v.category = 2 then some v :: none :: zen vs else some v :: zen vs
end
section
/-! THE SMALL MACHINE: instructions that touch no heap: what they make of place, locals and stack -/
abbrev zF : Type := Nat × zL × List Value
def zN (n len pc : Nat) (L : zL) (st : List Value) : Option zF := if len = n then some (pc + n, L, st) else none
def zJ (pc : Nat) (off : Int) (L : zL) (st : List Value) : Option zF := if 0 ≤ (pc : Int) + off then some (((pc : Int) + off).toNat, L, st) else none
def zkI (v : Value) : Bool := match v with | .int _ => true | _ => false
def zkL (v : Value) : Bool := match v with | .long _ => true | _ => false
def zkA (v : Value) : Bool := match v with | .ref _ => true | .null => true | _ => false
def zld (n len pc : Nat) (L : zL) (st : List Value) (i : Nat) (k : Value → Bool) : Option zF := match zget L i with
  | some v => if k v then zN n len pc L (v :: st) else none
  | none => none
def zs1 (nL n len pc : Nat) (L : zL) (st : List Value) (i : Nat) (k : Value → Bool) : Option zF := match st with
  | v :: r => if k v && decide (i < nL) then zN n len pc (zst1 L i v) r else none
  | [] => none
def zs2 (nL n len pc : Nat) (L : zL) (st : List Value) (i : Nat) : Option zF := match st with
  | .long x :: r => if i + 1 < nL then zN n len pc (zst2 L i (.long x)) r else none
  | _ => none
def zinc (nL len pc : Nat) (L : zL) (st : List Value) (i : Nat) (n : Int) : Option zF := match zget L i with
  | some (.int x) => if i < nL then zN 3 len pc (zst1 L i (.int (x + Int32.ofInt n))) st else none
  | _ => none
def zII (len pc : Nat) (L : zL) (st : List Value) (f : Int32 → Int32 → Int32) : Option zF := match st with
  | .int y :: .int x :: r => zN 1 len pc L (.int (f x y) :: r)
  | _ => none
def zID (len pc : Nat) (L : zL) (st : List Value) (f : Int32 → Int32 → Int32) : Option zF := match st with
  | .int y :: .int x :: r => if y = 0 then none else zN 1 len pc L (.int (f x y) :: r)
  | _ => none
def zI1 (len pc : Nat) (L : zL) (st : List Value) (f : Int32 → Value) : Option zF := match st with
  | .int x :: r => zN 1 len pc L (f x :: r)
  | _ => none
def zLL (len pc : Nat) (L : zL) (st : List Value) (f : Int64 → Int64 → Value) : Option zF := match st with
  | .long y :: .long x :: r => zN 1 len pc L (f x y :: r)
  | _ => none
def zLD (len pc : Nat) (L : zL) (st : List Value) (f : Int64 → Int64 → Value) : Option zF := match st with
  | .long y :: .long x :: r => if y = 0 then none else zN 1 len pc L (f x y :: r)
  | _ => none
def zLI (len pc : Nat) (L : zL) (st : List Value) (f : Int64 → Int32 → Int64) : Option zF := match st with
  | .int y :: .long x :: r => zN 1 len pc L (.long (f x y) :: r)
  | _ => none
def zL1 (len pc : Nat) (L : zL) (st : List Value) (f : Int64 → Value) : Option zF := match st with
  | .long x :: r => zN 1 len pc L (f x :: r)
  | _ => none
def zdup (len pc : Nat) (L : zL) (st : List Value) : Option zF := match st with
  | v :: r => if v.category = 1 then zN 1 len pc L (v :: v :: r) else none
  | [] => none
def zpop (len pc : Nat) (L : zL) (st : List Value) : Option zF := match st with
  | v :: r => if v.category = 1 then zN 1 len pc L r else none
  | [] => none
def zdup2 (len pc : Nat) (L : zL) (st : List Value) : Option zF := match st with
  | v :: u :: r => if v.category = 1 ∧ u.category = 1 then zN 1 len pc L (v :: u :: v :: u :: r) else if v.category = 2 then zN 1 len pc L (v :: v :: u :: r) else none
  | [v] => if v.category = 2 then zN 1 len pc L [v, v] else none
  | [] => none
def zcc (c : Jvm.ClassFile.Cond) (x y : Int32) : Bool := match c with
  | .eq => decide (x = y)
  | .ne => decide (¬ x = y)
  | .lt => decide (x < y)
  | .ge => decide (y ≤ x)
  | .gt => decide (y < x)
  | .le => decide (x ≤ y)
def zbr (len pc : Nat) (L : zL) (r : List Value) (off : Int) (t : Bool) : Option zF := if len = 3 ∧ 0 ≤ (pc : Int) + off then (if t then some (((pc : Int) + off).toNat, L, r) else some (pc + 3, L, r)) else none
def zif (len pc : Nat) (L : zL) (st : List Value) (c : Jvm.ClassFile.Cond) (off : Int) : Option zF := match st with
  | .int x :: r => zbr len pc L r off (zcc c x 0)
  | _ => none
def zic (len pc : Nat) (L : zL) (st : List Value) (c : Jvm.ClassFile.Cond) (off : Int) : Option zF := match st with
  | .int y :: .int x :: r => zbr len pc L r off (zcc c x y)
  | _ => none
def znu (len pc : Nat) (L : zL) (st : List Value) (off : Int) (b : Bool) : Option zF := match st with
  | .null :: r => zbr len pc L r off b
  | .ref _ :: r => zbr len pc L r off (!b)
  | _ => none
def zts (pc : Nat) (L : zL) (st : List Value) (d lo hi : Int) (offs : Array Int) : Option zF := match st with
  | .int x :: r => if x.toInt < lo ∨ hi < x.toInt then zJ pc d L r else match offs[(x.toInt - lo).toNat]? with
    | some off => zJ pc off L r
    | none => none
  | _ => none
def zls (pc : Nat) (L : zL) (st : List Value) (d : Int) (ps : Array (Int × Int)) : Option zF := match st with
  | .int x :: r => if (ps.toList.zip (ps.toList.drop 1)).all (fun (a, next) => a.1 < next.1) = true then zJ pc (Op.lookupswitch.offset ps.toList d x.toInt) L r else none
  | _ => none
def zA (nL : Nat) (i : Instr) (len pc : Nat) (L : zL) (st : List Value) : Option zF := match i with
  | .aconst_null => zN 1 len pc L (.null :: st)
  | .iconst n => zN 1 len pc L (.int (Int32.ofInt n) :: st)
  | .bipush n => zN 2 len pc L (.int (Int8.ofInt n).toInt32 :: st)
  | .sipush n => zN 3 len pc L (.int (Int16.ofInt n).toInt32 :: st)
  | .lconst n => zN 1 len pc L (.long (Int64.ofNat (n : Nat)) :: st)
  | .iload_n k => zld 1 len pc L st (k : Nat) zkI
  | .iload k => zld 2 len pc L st k zkI
  | .lload_n k => zld 1 len pc L st (k : Nat) zkL
  | .lload k => zld 2 len pc L st k zkL
  | .aload_n k => zld 1 len pc L st (k : Nat) zkA
  | .aload k => zld 2 len pc L st k zkA
  | .istore_n k => zs1 nL 1 len pc L st (k : Nat) zkI
  | .istore k => zs1 nL 2 len pc L st k zkI
  | .astore_n k => zs1 nL 1 len pc L st (k : Nat) zkA
  | .astore k => zs1 nL 2 len pc L st k zkA
  | .lstore_n k => zs2 nL 1 len pc L st (k : Nat)
  | .lstore k => zs2 nL 2 len pc L st k
  | .iinc k n => zinc nL len pc L st k n
  | .iadd => zII len pc L st (fun x y => x + y)
  | .isub => zII len pc L st (fun x y => x - y)
  | .imul => zII len pc L st (fun x y => x * y)
  | .iand => zII len pc L st (fun x y => x &&& y)
  | .ior => zII len pc L st (fun x y => x ||| y)
  | .ixor => zII len pc L st (fun x y => x ^^^ y)
  | .ishl => zII len pc L st (fun x y => x <<< (y &&& 31))
  | .ishr => zII len pc L st (fun x y => x >>> (y &&& 31))
  | .iushr => zII len pc L st (fun x y => (x.toUInt32 >>> (y.toUInt32 &&& Int32.toUInt32 31)).toInt32)
  | .idiv => zID len pc L st (fun x y => x / y)
  | .irem => zID len pc L st (fun x y => x - x / y * y)
  | .ineg => zI1 len pc L st (fun x => .int (-x))
  | .i2l => zI1 len pc L st (fun x => .long x.toInt64)
  | .ladd => zLL len pc L st (fun x y => .long (x + y))
  | .lsub => zLL len pc L st (fun x y => .long (x - y))
  | .lmul => zLL len pc L st (fun x y => .long (x * y))
  | .land => zLL len pc L st (fun x y => .long (x &&& y))
  | .lor => zLL len pc L st (fun x y => .long (x ||| y))
  | .lxor => zLL len pc L st (fun x y => .long (x ^^^ y))
  | .lcmp => zLL len pc L st (fun x y => .int (lg_cmp x y))
  | .ldiv => zLD len pc L st (fun x y => .long (x / y))
  | .lrem => zLD len pc L st (fun x y => .long (x - x / y * y))
  | .lneg => zL1 len pc L st (fun x => .long (-x))
  | .l2i => zL1 len pc L st (fun x => .int x.toInt32)
  | .lshl => zLI len pc L st (fun x y => x <<< (y.toInt64 &&& 63))
  | .lshr => zLI len pc L st (fun x y => x >>> (y.toInt64 &&& 63))
  | .lushr => zLI len pc L st (fun x y => (x.toUInt64 >>> (y.toInt64.toUInt64 &&& Int64.toUInt64 63)).toInt64)
  | .dup => zdup len pc L st
  | .pop => zpop len pc L st
  | .dup2 => zdup2 len pc L st
  | .ifCond c off => zif len pc L st c off
  | .if_icmp c off => zic len pc L st c off
  | .ifnull off => znu len pc L st off true
  | .ifnonnull off => znu len pc L st off false
  | .goto off => if len = 3 then zJ pc off L st else none
  | .tableswitch d lo hi offs => zts pc L st d lo hi offs
  | .lookupswitch d ps => zls pc L st d ps
  | _ => none
theorem zN_inv {n len pc : Nat} {L L' : zL} {st st' : List Value} {pc' : Nat} (h : zN n len pc L st = some (pc', L', st')) : len = n ∧ pc + n = pc' ∧ L = L' ∧ st = st' := by
  unfold zN at h
  split at h
  · rename_i e
    simp only [Option.some.injEq, Prod.mk.injEq] at h
    exact ⟨e, h⟩
  · cases h
theorem zJ_inv {pc : Nat} {off : Int} {L L' : zL} {st st' : List Value} {pc' : Nat} (h : zJ pc off L st = some (pc', L', st')) : (pc : Int) + off = (pc' : Int) ∧ L = L' ∧ st = st' := by
  unfold zJ at h
  split at h
  · rename_i e
    simp only [Option.some.injEq, Prod.mk.injEq] at h
    refine ⟨?_, h.2⟩
    rw [← h.1]
    omega
  · cases h
theorem zbr_inv {len pc : Nat} {off : Int} {t : Bool} {L L' : zL} {st st' : List Value} {pc' : Nat} (h : zbr len pc L st off t = some (pc', L', st')) : len = 3 ∧ L = L' ∧ st = st' ∧ ∃ tgt : Nat, (pc : Int) + off = (tgt : Int) ∧ ((t = true ∧ tgt = pc') ∨ (t = false ∧ pc + 3 = pc')) := by
  unfold zbr at h
  split at h
  · rename_i e
    cases t with
    | true =>
      simp only [if_true, Option.some.injEq, Prod.mk.injEq] at h
      exact ⟨e.1, h.2.1, h.2.2, ((pc : Int) + off).toNat, by omega, Or.inl ⟨rfl, h.1⟩⟩
    | false =>
      simp only [Bool.false_eq_true, if_false, Option.some.injEq, Prod.mk.injEq] at h
      exact ⟨e.1, h.2.1, h.2.2, ((pc : Int) + off).toNat, by omega, Or.inr ⟨rfl, h.1⟩⟩
  · cases h
theorem zII_inv {len pc : Nat} {L L' : zL} {st st' : List Value} {pc' : Nat} {f : Int32 → Int32 → Int32} (h : zII len pc L st f = some (pc', L', st')) : ∃ x y r, st = .int y :: .int x :: r ∧ len = 1 ∧ pc + 1 = pc' ∧ L = L' ∧ .int (f x y) :: r = st' := by
  unfold zII at h
  split at h
  · exact ⟨_, _, _, rfl, zN_inv h⟩
  · cases h
theorem zID_inv {len pc : Nat} {L L' : zL} {st st' : List Value} {pc' : Nat} {f : Int32 → Int32 → Int32} (h : zID len pc L st f = some (pc', L', st')) : ∃ x y r, st = .int y :: .int x :: r ∧ ¬ y = 0 ∧ len = 1 ∧ pc + 1 = pc' ∧ L = L' ∧ .int (f x y) :: r = st' := by
  unfold zID at h
  split at h
  · split at h
    · cases h
    · exact ⟨_, _, _, rfl, by assumption, zN_inv h⟩
  · cases h
theorem zI1_inv {len pc : Nat} {L L' : zL} {st st' : List Value} {pc' : Nat} {f : Int32 → Value} (h : zI1 len pc L st f = some (pc', L', st')) : ∃ x r, st = .int x :: r ∧ len = 1 ∧ pc + 1 = pc' ∧ L = L' ∧ f x :: r = st' := by
  unfold zI1 at h
  split at h
  · exact ⟨_, _, rfl, zN_inv h⟩
  · cases h
theorem zLL_inv {len pc : Nat} {L L' : zL} {st st' : List Value} {pc' : Nat} {f : Int64 → Int64 → Value} (h : zLL len pc L st f = some (pc', L', st')) : ∃ x y r, st = .long y :: .long x :: r ∧ len = 1 ∧ pc + 1 = pc' ∧ L = L' ∧ f x y :: r = st' := by
  unfold zLL at h
  split at h
  · exact ⟨_, _, _, rfl, zN_inv h⟩
  · cases h
theorem zLD_inv {len pc : Nat} {L L' : zL} {st st' : List Value} {pc' : Nat} {f : Int64 → Int64 → Value} (h : zLD len pc L st f = some (pc', L', st')) : ∃ x y r, st = .long y :: .long x :: r ∧ ¬ y = 0 ∧ len = 1 ∧ pc + 1 = pc' ∧ L = L' ∧ f x y :: r = st' := by
  unfold zLD at h
  split at h
  · split at h
    · cases h
    · exact ⟨_, _, _, rfl, by assumption, zN_inv h⟩
  · cases h
theorem zLI_inv {len pc : Nat} {L L' : zL} {st st' : List Value} {pc' : Nat} {f : Int64 → Int32 → Int64} (h : zLI len pc L st f = some (pc', L', st')) : ∃ x y r, st = .int y :: .long x :: r ∧ len = 1 ∧ pc + 1 = pc' ∧ L = L' ∧ .long (f x y) :: r = st' := by
  unfold zLI at h
  split at h
  · exact ⟨_, _, _, rfl, zN_inv h⟩
  · cases h
theorem zL1_inv {len pc : Nat} {L L' : zL} {st st' : List Value} {pc' : Nat} {f : Int64 → Value} (h : zL1 len pc L st f = some (pc', L', st')) : ∃ x r, st = .long x :: r ∧ len = 1 ∧ pc + 1 = pc' ∧ L = L' ∧ f x :: r = st' := by
  unfold zL1 at h
  split at h
  · exact ⟨_, _, rfl, zN_inv h⟩
  · cases h
theorem zld_inv {n len pc : Nat} {L L' : zL} {st st' : List Value} {pc' i : Nat} {k : Value → Bool} (h : zld n len pc L st i k = some (pc', L', st')) : ∃ v, zget L i = some v ∧ k v = true ∧ len = n ∧ pc + n = pc' ∧ L = L' ∧ v :: st = st' := by
  unfold zld at h
  split at h
  · split at h
    · exact ⟨_, by assumption, by assumption, zN_inv h⟩
    · cases h
  · cases h
theorem zs1_inv {nL n len pc : Nat} {L L' : zL} {st st' : List Value} {pc' i : Nat} {k : Value → Bool} (h : zs1 nL n len pc L st i k = some (pc', L', st')) : ∃ v, st = v :: st' ∧ k v = true ∧ i < nL ∧ len = n ∧ pc + n = pc' ∧ zst1 L i v = L' := by
  unfold zs1 at h
  split at h
  · split at h
    · rename_i e
      simp only [Bool.and_eq_true, decide_eq_true_eq] at e
      obtain ⟨h1, h2, h3, rfl⟩ := zN_inv h
      exact ⟨_, rfl, e.1, e.2, h1, h2, h3⟩
    · cases h
  · cases h
theorem zs2_inv {nL n len pc : Nat} {L L' : zL} {st st' : List Value} {pc' i : Nat} (h : zs2 nL n len pc L st i = some (pc', L', st')) : ∃ x, st = .long x :: st' ∧ i + 1 < nL ∧ len = n ∧ pc + n = pc' ∧ zst2 L i (.long x) = L' := by
  unfold zs2 at h
  split at h
  · split at h
    · obtain ⟨h1, h2, h3, rfl⟩ := zN_inv h
      exact ⟨_, rfl, by assumption, h1, h2, h3⟩
    · cases h
  · cases h
theorem zinc_inv {nL len pc : Nat} {L L' : zL} {st st' : List Value} {pc' i : Nat} {n : Int} (h : zinc nL len pc L st i n = some (pc', L', st')) : ∃ x, zget L i = some (.int x) ∧ i < nL ∧ len = 3 ∧ pc + 3 = pc' ∧ zst1 L i (.int (x + Int32.ofInt n)) = L' ∧ st = st' := by
  unfold zinc at h
  split at h
  · split at h
    · exact ⟨_, by assumption, by assumption, zN_inv h⟩
    · cases h
  · cases h
theorem zkI_inv {v : Value} (h : zkI v = true) : ∃ x, v = .int x := by
  cases v <;> first | exact ⟨_, rfl⟩ | cases h
theorem zkL_inv {v : Value} (h : zkL v = true) : ∃ x, v = .long x := by
  cases v <;> first | exact ⟨_, rfl⟩ | cases h
theorem zkA_inv {v : Value} (h : zkA v = true) : v = .null ∨ ∃ x, v = .ref x := by
  cases v <;> first | exact Or.inr ⟨_, rfl⟩ | exact Or.inl rfl | cases h
theorem zas_has {L : zL} {i : Nat} {v : Value} (h : zget L i = some v) : ∃ k : Nat, (zas 0 L)[k]? = some (i, v) := List.mem_iff_getElem?.mp (zas_mem0.mpr h)
section ZA
variable {p : Program} {l : Launch} {e : Env} {R : Room} {s : State} {m : MethodId} {args : Array Value} {below : List Frame} {meth : Method} {c : Code} {H : Heap} {locs : List Loc} {cells slots : Nat} {Q : State → Prop}
variable {cc : ByteArray} {pc len nL : Nat} {ls : Array Slot} {L L' : zL} {st st' : List Value} {pc' : Nat}
theorem zif_ok {q : Jvm.ClassFile.Cond} {off : Int} (hx : p.tables.exec = Jvm.exec) (hb : c.code = cc) (hz : zif len pc L st q off = some (pc', L', st')) (hd : decode cc pc = .ok (.ifCond q off, len)) (hl : zR ls nL L) (kk : ∀ ls' : Array Slot, zR ls' nL L' → W p l e R s m args below meth c H locs cells slots Q (F0 m pc' ls' st')) : W p l e R s m args below meth c H locs cells slots Q (F0 m pc ls st) := by
  unfold zif at hz
  split at hz
  · rename_i x r
    obtain ⟨rfl, rfl, rfl, tgt, ht, h⟩ := zbr_inv hz
    cases q <;> simp only [zcc, decide_eq_true_eq, decide_eq_false_iff_not, Decidable.not_not] at h
    · rcases h with ⟨h1, rfl⟩ | ⟨h1, rfl⟩
      · exact lv_if_eq hx hb hd ht (fun _ => kk ls hl) (fun n => absurd h1 n)
      · exact lv_if_eq hx hb hd ht (fun n => absurd n h1) (fun _ => kk ls hl)
    · rcases h with ⟨h1, rfl⟩ | ⟨h1, rfl⟩
      · exact lv_if_ne hx hb hd ht (fun _ => kk ls hl) (fun n => absurd n h1)
      · exact lv_if_ne hx hb hd ht (fun n => absurd h1 n) (fun _ => kk ls hl)
    · rcases h with ⟨h1, rfl⟩ | ⟨h1, rfl⟩
      · exact lv_if_lt hx hb hd ht (fun _ => kk ls hl) (fun n => absurd h1 n)
      · exact lv_if_lt hx hb hd ht (fun n => absurd n h1) (fun _ => kk ls hl)
    · rcases h with ⟨h1, rfl⟩ | ⟨h1, rfl⟩
      · exact lv_if_ge hx hb hd ht (fun _ => kk ls hl) (fun n => absurd h1 n)
      · exact lv_if_ge hx hb hd ht (fun n => absurd n h1) (fun _ => kk ls hl)
    · rcases h with ⟨h1, rfl⟩ | ⟨h1, rfl⟩
      · exact lv_if_gt hx hb hd ht (fun _ => kk ls hl) (fun n => absurd h1 n)
      · exact lv_if_gt hx hb hd ht (fun n => absurd n h1) (fun _ => kk ls hl)
    · rcases h with ⟨h1, rfl⟩ | ⟨h1, rfl⟩
      · exact lv_if_le hx hb hd ht (fun _ => kk ls hl) (fun n => absurd h1 n)
      · exact lv_if_le hx hb hd ht (fun n => absurd n h1) (fun _ => kk ls hl)
  · cases hz
theorem zic_ok {q : Jvm.ClassFile.Cond} {off : Int} (hx : p.tables.exec = Jvm.exec) (hb : c.code = cc) (hz : zic len pc L st q off = some (pc', L', st')) (hd : decode cc pc = .ok (.if_icmp q off, len)) (hl : zR ls nL L) (kk : ∀ ls' : Array Slot, zR ls' nL L' → W p l e R s m args below meth c H locs cells slots Q (F0 m pc' ls' st')) : W p l e R s m args below meth c H locs cells slots Q (F0 m pc ls st) := by
  unfold zic at hz
  split at hz
  · rename_i y x r
    obtain ⟨rfl, rfl, rfl, tgt, ht, h⟩ := zbr_inv hz
    cases q <;> simp only [zcc, decide_eq_true_eq, decide_eq_false_iff_not, Decidable.not_not] at h
    · rcases h with ⟨h1, rfl⟩ | ⟨h1, rfl⟩
      · exact lv_icmp_eq hx hb hd ht (fun _ => kk ls hl) (fun n => absurd h1 n)
      · exact lv_icmp_eq hx hb hd ht (fun n => absurd n h1) (fun _ => kk ls hl)
    · rcases h with ⟨h1, rfl⟩ | ⟨h1, rfl⟩
      · exact lv_icmp_ne hx hb hd ht (fun _ => kk ls hl) (fun n => absurd n h1)
      · exact lv_icmp_ne hx hb hd ht (fun n => absurd h1 n) (fun _ => kk ls hl)
    · rcases h with ⟨h1, rfl⟩ | ⟨h1, rfl⟩
      · exact lv_icmp_lt hx hb hd ht (fun _ => kk ls hl) (fun n => absurd h1 n)
      · exact lv_icmp_lt hx hb hd ht (fun n => absurd n h1) (fun _ => kk ls hl)
    · rcases h with ⟨h1, rfl⟩ | ⟨h1, rfl⟩
      · exact lv_icmp_ge hx hb hd ht (fun _ => kk ls hl) (fun n => absurd h1 n)
      · exact lv_icmp_ge hx hb hd ht (fun n => absurd n h1) (fun _ => kk ls hl)
    · rcases h with ⟨h1, rfl⟩ | ⟨h1, rfl⟩
      · exact lv_icmp_gt hx hb hd ht (fun _ => kk ls hl) (fun n => absurd h1 n)
      · exact lv_icmp_gt hx hb hd ht (fun n => absurd n h1) (fun _ => kk ls hl)
    · rcases h with ⟨h1, rfl⟩ | ⟨h1, rfl⟩
      · exact lv_icmp_le hx hb hd ht (fun _ => kk ls hl) (fun n => absurd h1 n)
      · exact lv_icmp_le hx hb hd ht (fun n => absurd n h1) (fun _ => kk ls hl)
  · cases hz
theorem znu_ok {off : Int} (hx : p.tables.exec = Jvm.exec) (hb : c.code = cc) (hz : znu len pc L st off true = some (pc', L', st')) (hd : decode cc pc = .ok (.ifnull off, len)) (hl : zR ls nL L) (kk : ∀ ls' : Array Slot, zR ls' nL L' → W p l e R s m args below meth c H locs cells slots Q (F0 m pc' ls' st')) : W p l e R s m args below meth c H locs cells slots Q (F0 m pc ls st) := by
  unfold znu at hz
  split at hz
  · obtain ⟨rfl, rfl, rfl, tgt, ht, h⟩ := zbr_inv hz
    rcases h with ⟨-, rfl⟩ | ⟨h, -⟩
    · exact lv_ifnullN hx hb hd ht (kk ls hl)
    · cases h
  · obtain ⟨rfl, rfl, rfl, tgt, ht, h⟩ := zbr_inv hz
    rcases h with ⟨h, -⟩ | ⟨-, rfl⟩
    · cases h
    · exact lv_ifnull hx hb hd (kk ls hl)
  · cases hz
theorem znn_ok {off : Int} (hx : p.tables.exec = Jvm.exec) (hb : c.code = cc) (hz : znu len pc L st off false = some (pc', L', st')) (hd : decode cc pc = .ok (.ifnonnull off, len)) (hl : zR ls nL L) (kk : ∀ ls' : Array Slot, zR ls' nL L' → W p l e R s m args below meth c H locs cells slots Q (F0 m pc' ls' st')) : W p l e R s m args below meth c H locs cells slots Q (F0 m pc ls st) := by
  unfold znu at hz
  split at hz
  · obtain ⟨rfl, rfl, rfl, tgt, ht, h⟩ := zbr_inv hz
    rcases h with ⟨h, -⟩ | ⟨-, rfl⟩
    · cases h
    · exact lv_ifnonnullN hx hb hd (kk ls hl)
  · obtain ⟨rfl, rfl, rfl, tgt, ht, h⟩ := zbr_inv hz
    rcases h with ⟨-, rfl⟩ | ⟨h, -⟩
    · exact lv_ifnonnull hx hb hd ht (kk ls hl)
    · cases h
  · cases hz
theorem zts_ok {d lo hi : Int} {offs : Array Int} (hx : p.tables.exec = Jvm.exec) (hb : c.code = cc) (hz : zts pc L st d lo hi offs = some (pc', L', st')) (hd : decode cc pc = .ok (.tableswitch d lo hi offs, len)) (hl : zR ls nL L) (kk : ∀ ls' : Array Slot, zR ls' nL L' → W p l e R s m args below meth c H locs cells slots Q (F0 m pc' ls' st')) : W p l e R s m args below meth c H locs cells slots Q (F0 m pc ls st) := by
  unfold zts at hz
  split at hz
  · split at hz
    · obtain ⟨ht, rfl, rfl⟩ := zJ_inv hz
      exact lv_tableOut hx hb hd (by assumption) ht (kk ls hl)
    · rename_i hn
      split at hz
      · obtain ⟨ht, rfl, rfl⟩ := zJ_inv hz
        exact lv_tableIn hx hb hd (fun z => hn (Or.inl z)) (fun z => hn (Or.inr z)) (by assumption) ht (kk ls hl)
      · cases hz
  · cases hz
theorem zls_ok {d : Int} {ps : Array (Int × Int)} (hx : p.tables.exec = Jvm.exec) (hb : c.code = cc) (hz : zls pc L st d ps = some (pc', L', st')) (hd : decode cc pc = .ok (.lookupswitch d ps, len)) (hl : zR ls nL L) (kk : ∀ ls' : Array Slot, zR ls' nL L' → W p l e R s m args below meth c H locs cells slots Q (F0 m pc' ls' st')) : W p l e R s m args below meth c H locs cells slots Q (F0 m pc ls st) := by
  unfold zls at hz
  split at hz
  · split at hz
    · obtain ⟨ht, rfl, rfl⟩ := zJ_inv hz
      exact lv_lookup hx hb hd (by assumption) rfl ht (kk ls hl)
    · cases hz
  · cases hz
theorem zdup2_ok  (hx : p.tables.exec = Jvm.exec) (hb : c.code = cc) (hz : zdup2 len pc L st = some (pc', L', st')) (hd : decode cc pc = .ok (.dup2, len)) (hl : zR ls nL L) (kk : ∀ ls' : Array Slot, zR ls' nL L' → W p l e R s m args below meth c H locs cells slots Q (F0 m pc' ls' st')) : W p l e R s m args below meth c H locs cells slots Q (F0 m pc ls st) := by
  unfold zdup2 at hz
  split at hz
  · split at hz
    · rename_i h
      obtain ⟨rfl, rfl, rfl, rfl⟩ := zN_inv hz
      exact lv_dup2_11 hx hb hd h.1 h.2 (kk ls hl)
    · split at hz
      · rename_i h
        obtain ⟨rfl, rfl, rfl, rfl⟩ := zN_inv hz
        exact lv_dup2_2 hx hb hd h (kk ls hl)
      · cases hz
  · split at hz
    · rename_i h
      obtain ⟨rfl, rfl, rfl, rfl⟩ := zN_inv hz
      exact lv_dup2_2 hx hb hd h (kk ls hl)
    · cases hz
  · cases hz
theorem zdup_ok  (hx : p.tables.exec = Jvm.exec) (hb : c.code = cc) (hz : zdup len pc L st = some (pc', L', st')) (hd : decode cc pc = .ok (.dup, len)) (hl : zR ls nL L) (kk : ∀ ls' : Array Slot, zR ls' nL L' → W p l e R s m args below meth c H locs cells slots Q (F0 m pc' ls' st')) : W p l e R s m args below meth c H locs cells slots Q (F0 m pc ls st) := by
  unfold zdup at hz
  split at hz
  · split at hz
    · rename_i h
      obtain ⟨rfl, rfl, rfl, rfl⟩ := zN_inv hz
      exact lv_dup hx hb hd h (kk ls hl)
    · cases hz
  · cases hz
theorem zpop_ok  (hx : p.tables.exec = Jvm.exec) (hb : c.code = cc) (hz : zpop len pc L st = some (pc', L', st')) (hd : decode cc pc = .ok (.pop, len)) (hl : zR ls nL L) (kk : ∀ ls' : Array Slot, zR ls' nL L' → W p l e R s m args below meth c H locs cells slots Q (F0 m pc' ls' st')) : W p l e R s m args below meth c H locs cells slots Q (F0 m pc ls st) := by
  unfold zpop at hz
  split at hz
  · split at hz
    · rename_i h
      obtain ⟨rfl, rfl, rfl, rfl⟩ := zN_inv hz
      exact lv_pop hx hb hd h (kk ls hl)
    · cases hz
  · cases hz
theorem zA_ok {i : Instr} (hx : p.tables.exec = Jvm.exec) (hb : c.code = cc) (hz : zA nL i len pc L st = some (pc', L', st')) (hd : decode cc pc = .ok (i, len)) (hl : zR ls nL L) (kk : ∀ ls' : Array Slot, zR ls' nL L' → W p l e R s m args below meth c H locs cells slots Q (F0 m pc' ls' st')) : W p l e R s m args below meth c H locs cells slots Q (F0 m pc ls st) := by
  cases i <;> simp only [zA, reduceCtorEq] at hz
  case aconst_null => obtain ⟨rfl, rfl, rfl, rfl⟩ := zN_inv hz; exact lv_null hx hb hd (kk ls hl)
  case iconst n => obtain ⟨rfl, rfl, rfl, rfl⟩ := zN_inv hz; exact lv_iconst hx hb hd rfl (kk ls hl)
  case bipush n => obtain ⟨rfl, rfl, rfl, rfl⟩ := zN_inv hz; exact lv_bipush hx hb hd rfl (kk ls hl)
  case sipush n => obtain ⟨rfl, rfl, rfl, rfl⟩ := zN_inv hz; exact lv_sipush hx hb hd rfl (kk ls hl)
  case lconst n => obtain ⟨rfl, rfl, rfl, rfl⟩ := zN_inv hz; exact lv_lconst hx hb hd rfl (kk ls hl)
  case iload_n k => obtain ⟨v, h1, h2, rfl, rfl, rfl, rfl⟩ := zld_inv hz; obtain ⟨x, rfl⟩ := zkI_inv h2; exact lv_iload_n hx hb hd rfl (hl.get h1) (kk ls hl)
  case iload k => obtain ⟨v, h1, h2, rfl, rfl, rfl, rfl⟩ := zld_inv hz; obtain ⟨x, rfl⟩ := zkI_inv h2; exact lv_iload hx hb hd (hl.get h1) (kk ls hl)
  case lload_n k => obtain ⟨v, h1, h2, rfl, rfl, rfl, rfl⟩ := zld_inv hz; obtain ⟨x, rfl⟩ := zkL_inv h2; exact lv_lload_n hx hb hd rfl (hl.get h1) (kk ls hl)
  case lload k => obtain ⟨v, h1, h2, rfl, rfl, rfl, rfl⟩ := zld_inv hz; obtain ⟨x, rfl⟩ := zkL_inv h2; exact lv_lload hx hb hd (hl.get h1) (kk ls hl)
  case aload_n k => obtain ⟨v, h1, h2, rfl, rfl, rfl, rfl⟩ := zld_inv hz; rcases zkA_inv h2 with rfl | ⟨x, rfl⟩; exact lv_aload_nN hx hb hd rfl (hl.get h1) (kk ls hl); exact lv_aload_n hx hb hd rfl (hl.get h1) (kk ls hl)
  case aload k => obtain ⟨v, h1, h2, rfl, rfl, rfl, rfl⟩ := zld_inv hz; rcases zkA_inv h2 with rfl | ⟨x, rfl⟩; exact lv_aloadN hx hb hd (hl.get h1) (kk ls hl); exact lv_aload hx hb hd (hl.get h1) (kk ls hl)
  case istore_n k => obtain ⟨v, rfl, h2, h3, rfl, rfl, rfl⟩ := zs1_inv hz; obtain ⟨x, rfl⟩ := zkI_inv h2; exact lv_istore_n hx hb hd rfl hl h3 rfl (fun ls' h => kk ls' (zR.st1 h))
  case istore k => obtain ⟨v, rfl, h2, h3, rfl, rfl, rfl⟩ := zs1_inv hz; obtain ⟨x, rfl⟩ := zkI_inv h2; exact lv_istore hx hb hd hl h3 rfl (fun ls' h => kk ls' (zR.st1 h))
  case astore_n k => obtain ⟨v, rfl, h2, h3, rfl, rfl, rfl⟩ := zs1_inv hz; rcases zkA_inv h2 with rfl | ⟨x, rfl⟩; exact lv_astore_nN hx hb hd rfl hl h3 rfl (fun ls' h => kk ls' (zR.st1 h)); exact lv_astore_n hx hb hd rfl hl h3 rfl (fun ls' h => kk ls' (zR.st1 h))
  case astore k => obtain ⟨v, rfl, h2, h3, rfl, rfl, rfl⟩ := zs1_inv hz; rcases zkA_inv h2 with rfl | ⟨x, rfl⟩; exact lv_astoreN hx hb hd hl h3 rfl (fun ls' h => kk ls' (zR.st1 h)); exact lv_astore hx hb hd hl h3 rfl (fun ls' h => kk ls' (zR.st1 h))
  case lstore_n k => obtain ⟨x, rfl, h3, rfl, rfl, rfl⟩ := zs2_inv hz; exact lv_lstore_n hx hb hd rfl hl h3 rfl (fun ls' h => kk ls' (zR.st2 h))
  case lstore k => obtain ⟨x, rfl, h3, rfl, rfl, rfl⟩ := zs2_inv hz; exact lv_lstore hx hb hd hl h3 rfl (fun ls' h => kk ls' (zR.st2 h))
  case iinc k n => obtain ⟨x, h1, h3, rfl, rfl, rfl, rfl⟩ := zinc_inv hz; obtain ⟨j, hj⟩ := zas_has h1; exact lv_iinc hx hb hd hl hj rfl h3 rfl (fun ls' h => kk ls' (zR.st1 h))
  case iadd => obtain ⟨x, y, r, rfl, rfl, rfl, rfl, rfl⟩ := zII_inv hz; exact lv_iadd hx hb hd (kk ls hl)
  case isub => obtain ⟨x, y, r, rfl, rfl, rfl, rfl, rfl⟩ := zII_inv hz; exact lv_isub hx hb hd (kk ls hl)
  case imul => obtain ⟨x, y, r, rfl, rfl, rfl, rfl, rfl⟩ := zII_inv hz; exact lv_imul hx hb hd (kk ls hl)
  case iand => obtain ⟨x, y, r, rfl, rfl, rfl, rfl, rfl⟩ := zII_inv hz; exact lv_iand hx hb hd (kk ls hl)
  case ior => obtain ⟨x, y, r, rfl, rfl, rfl, rfl, rfl⟩ := zII_inv hz; exact lv_ior hx hb hd (kk ls hl)
  case ixor => obtain ⟨x, y, r, rfl, rfl, rfl, rfl, rfl⟩ := zII_inv hz; exact lv_ixor hx hb hd (kk ls hl)
  case ishl => obtain ⟨x, y, r, rfl, rfl, rfl, rfl, rfl⟩ := zII_inv hz; exact lv_ishl hx hb hd (kk ls hl)
  case ishr => obtain ⟨x, y, r, rfl, rfl, rfl, rfl, rfl⟩ := zII_inv hz; exact lv_ishr hx hb hd (kk ls hl)
  case iushr => obtain ⟨x, y, r, rfl, rfl, rfl, rfl, rfl⟩ := zII_inv hz; exact lv_iushr hx hb hd rfl (kk ls hl)
  case idiv => obtain ⟨x, y, r, rfl, h0, rfl, rfl, rfl, rfl⟩ := zID_inv hz; exact lv_idiv hx hb hd h0 (kk ls hl)
  case irem => obtain ⟨x, y, r, rfl, h0, rfl, rfl, rfl, rfl⟩ := zID_inv hz; exact lv_irem hx hb hd h0 (kk ls hl)
  case ineg => obtain ⟨x, r, rfl, rfl, rfl, rfl, rfl⟩ := zI1_inv hz; exact lv_ineg hx hb hd (kk ls hl)
  case i2l => obtain ⟨x, r, rfl, rfl, rfl, rfl, rfl⟩ := zI1_inv hz; exact lv_i2l hx hb hd rfl (kk ls hl)
  case ladd => obtain ⟨x, y, r, rfl, rfl, rfl, rfl, rfl⟩ := zLL_inv hz; exact lv_ladd hx hb hd (kk ls hl)
  case lsub => obtain ⟨x, y, r, rfl, rfl, rfl, rfl, rfl⟩ := zLL_inv hz; exact lv_lsub hx hb hd (kk ls hl)
  case lmul => obtain ⟨x, y, r, rfl, rfl, rfl, rfl, rfl⟩ := zLL_inv hz; exact lv_lmul hx hb hd (kk ls hl)
  case land => obtain ⟨x, y, r, rfl, rfl, rfl, rfl, rfl⟩ := zLL_inv hz; exact lv_land hx hb hd (kk ls hl)
  case lor => obtain ⟨x, y, r, rfl, rfl, rfl, rfl, rfl⟩ := zLL_inv hz; exact lv_lor hx hb hd (kk ls hl)
  case lxor => obtain ⟨x, y, r, rfl, rfl, rfl, rfl, rfl⟩ := zLL_inv hz; exact lv_lxor hx hb hd (kk ls hl)
  case lcmp => obtain ⟨x, y, r, rfl, rfl, rfl, rfl, rfl⟩ := zLL_inv hz; exact W.lcmp hx hb hd (kk ls hl)
  case ldiv => obtain ⟨x, y, r, rfl, h0, rfl, rfl, rfl, rfl⟩ := zLD_inv hz; exact lv_ldiv hx hb hd h0 (kk ls hl)
  case lrem => obtain ⟨x, y, r, rfl, h0, rfl, rfl, rfl, rfl⟩ := zLD_inv hz; exact lv_lrem hx hb hd h0 (kk ls hl)
  case lneg => obtain ⟨x, r, rfl, rfl, rfl, rfl, rfl⟩ := zL1_inv hz; exact lv_lneg hx hb hd (kk ls hl)
  case l2i => obtain ⟨x, r, rfl, rfl, rfl, rfl, rfl⟩ := zL1_inv hz; exact lv_l2i hx hb hd rfl (kk ls hl)
  case lshl => obtain ⟨x, y, r, rfl, rfl, rfl, rfl, rfl⟩ := zLI_inv hz; exact lv_lshl hx hb hd rfl (kk ls hl)
  case lshr => obtain ⟨x, y, r, rfl, rfl, rfl, rfl, rfl⟩ := zLI_inv hz; exact lv_lshr hx hb hd rfl (kk ls hl)
  case lushr => obtain ⟨x, y, r, rfl, rfl, rfl, rfl, rfl⟩ := zLI_inv hz; exact lv_lushr hx hb hd rfl (kk ls hl)
  case dup => exact zdup_ok hx hb hz hd hl kk
  case pop => exact zpop_ok hx hb hz hd hl kk
  case dup2 => exact zdup2_ok hx hb hz hd hl kk
  case ifCond c off => exact zif_ok hx hb hz hd hl kk
  case if_icmp c off => exact zic_ok hx hb hz hd hl kk
  case ifnull off => exact znu_ok hx hb hz hd hl kk
  case ifnonnull off => exact znn_ok hx hb hz hd hl kk
  case goto off => split at hz; rename_i h3; subst h3; obtain ⟨ht, rfl, rfl⟩ := zJ_inv hz; exact lv_goto hx hb hd ht (kk ls hl); cases hz
  case tableswitch d lo hi offs => exact zts_ok hx hb hz hd hl kk
  case lookupswitch d ps => exact zls_ok hx hb hz hd hl kk
end ZA
end
section
/-! numbers of classes (0 .. 7: RX0 .. RX7, 8 the law, 9 Integer, 10 Arrays), of fields, calls, methods: printed by wip/gen/tables.py -/
def zOwn (o : Nat) : String := match o with
  | 0 => RX0
  | 1 => RX1
  | 2 => RX2
  | 3 => RX3
  | 4 => RX4
  | 5 => RX5
  | 6 => RX6
  | 7 => RX7
  | 8 => RL
  | 9 => RJ6
  | _ => RJ7
/-- a field: the class that names it, its number there; the name by which it is called; its place; the classes (of vwCl) whose objects have it -/
def zFl : List (Nat × Nat × String × Nat × List Nat) := [(0, 11, "RigidRanks$Anywhere", 6, [0]), (0, 15, "RigidRanks$Anywhere", 7, [0]), (0, 24, "RigidRanks$Anywhere", 0, [0]), (0, 37, "RigidRanks$Frame", 5, [1]), (0, 41, "RigidRanks$Frame", 1, [1]), (0, 44, "RigidRanks$Frame", 2, [1]), (0, 53, "RigidRanks$Anywhere", 2, [0]), (0, 62, "RigidRanks$Anywhere", 1, [0]), (0, 69, "RigidRanks$Frame", 4, [1]), (1, 9, "RigidRanks$Frame", 0, [1]), (1, 15, "RigidRanks$Frame", 1, [1]), (1, 18, "RigidRanks$Frame", 2, [1]), (1, 21, "RigidRanks$Frame", 3, [1]), (1, 24, "RigidRanks$Frame", 4, [1]), (1, 28, "RigidRanks$Frame", 5, [1]), (1, 31, "RigidRanks$Frame", 6, [1]), (2, 9, "RigidRanks$Matroid", 1, [0, 2]), (2, 15, "RigidRanks$Matroid", 2, [0, 2]), (2, 18, "RigidRanks$Matroid", 3, [0, 2]), (2, 21, "RigidRanks$Matroid", 4, [0, 2]), (2, 24, "RigidRanks$Matroid", 5, [0, 2]), (2, 28, "RigidRanks$Matroid", 0, [0, 2]), (2, 32, "RigidRanks$Frame", 6, [1]), (2, 47, "RigidRanks$Frame", 5, [1]), (2, 106, "RigidRanks$Frame", 4, [1]), (3, 11, "RigidRanks$Placed", 7, [2]), (3, 17, "RigidRanks$Placed", 8, [2]), (3, 21, "RigidRanks$Placed", 9, [2]), (3, 28, "RigidRanks$Placed", 10, [2]), (3, 32, "RigidRanks$Placed", 6, [2]), (3, 40, "RigidRanks$Placed", 0, [2]), (3, 44, "RigidRanks$Frame", 0, [1]), (3, 53, "RigidRanks$Frame", 5, [1]), (3, 56, "RigidRanks$Frame", 1, [1]), (3, 59, "RigidRanks$Frame", 2, [1]), (3, 91, "RigidRanks$Frame", 4, [1]), (3, 106, "RigidRanks$Placed", 2, [2]), (5, 7, "RigidRanks$Sheet", 0, [3]), (5, 13, "RigidRanks$Sheet", 1, [3]), (5, 17, "RigidRanks$Sheet", 2, [3]), (6, 12, "RigidRanks", 0, [4]), (6, 18, "RigidRanks", 1, [4]), (6, 22, "RigidRanks", 2, [4]), (6, 26, "RigidRanks$Frame", 4, [1]), (6, 52, "RigidRanks$Frame", 5, [1]), (6, 66, "RigidRanks$Frame", 3, [1]), (6, 73, "RigidRanks$Frame", 1, [1]), (6, 76, "RigidRanks$Frame", 2, [1]), (6, 79, "RigidRanks$Frame", 0, [1]), (6, 98, "RigidRanks$Matroid", 2, [0, 2]), (7, 7, "RigidRanksModel", 0, [5]), (7, 13, "RigidRanksModel", 1, [5]), (7, 17, "RigidRanksModel", 3, [5]), (7, 20, "RigidRanksModel", 4, [5]), (7, 23, "RigidRanksModel", 5, [5]), (7, 26, "RigidRanksModel", 6, [5]), (7, 29, "RigidRanksModel", 7, [5]), (7, 33, "RigidRanksModel", 8, [5]), (7, 37, "RigidRanksModel", 11, [5]), (7, 40, "RigidRanksModel", 12, [5]), (7, 43, "RigidRanksModel", 14, [5]), (7, 46, "RigidRanksModel", 15, [5]), (7, 49, "RigidRanksModel", 17, [5]), (7, 52, "RigidRanksModel", 19, [5]), (7, 55, "RigidRanksModel", 20, [5]), (7, 58, "RigidRanksModel", 21, [5]), (7, 61, "RigidRanksModel", 22, [5]), (7, 64, "RigidRanksModel", 23, [5]), (7, 74, "RigidRanksModel", 2, [5]), (7, 84, "RigidRanksModel", 10, [5]), (7, 87, "RigidRanksModel", 9, [5]), (7, 100, "RigidRanksModel", 13, [5]), (7, 123, "RigidRanksModel", 16, [5]), (7, 200, "RigidRanksModel", 18, [5])]
/-- a method: name, bytes, locals, result, its class, whether it makes an object -/
def zMt_0 : List (MethodName × ByteArray × Nat × Option FieldType × Nat × Bool) := [(yJ6_bitCount_0f7a4, cJ6_bitCount_0f7a4, 1, (some .int), 9, false), (yJ7_fill_53178, cJ7_fill_53178, 4, none, 10, false), (yX0_init, cX0_init, 2, none, 0, true), (yX0_lacking, cX0_lacking, 1, (some .int), 0, false), (yX0_link, cX0_link, 3, none, 0, false), (yX0_linkAll, cX0_linkAll, 4, none, 0, false), (yX0_mostInside, cX0_mostInside, 1, (some .int), 0, false), (yX0_prepare, cX0_prepare, 3, none, 0, false), (yX0_raises, cX0_raises, 8, (some .boolean), 0, false), (yX1_allBars, cX1_allBars, 1, (some .int), 1, false), (yX1_allJoints, cX1_allJoints, 1, (some .int), 1, false), (yX1_barsSigned, cX1_barsSigned, 4, (some .int), 1, false)]
def zMt_1 : List (MethodName × ByteArray × Nat × Option FieldType × Nat × Bool) := [(yX1_dropLast, cX1_dropLast, 1, (some .int), 1, false), (yX1_hangsTogether, cX1_hangsTogether, 5, (some .boolean), 1, false), (yX1_hasBar, cX1_hasBar, 2, (some .boolean), 1, false), (yX1_hasJoint, cX1_hasJoint, 2, (some .boolean), 1, false), (yX1_hasSet, cX1_hasSet, 2, (some .boolean), 1, false), (yX1_init, cX1_init, 1, none, 1, true), (yX1_isJoined, cX1_isJoined, 3, (some .boolean), 1, false), (yX1_join, cX1_join, 4, (some .int), 1, false), (yX1_move, cX1_move, 6, (some .boolean), 1, false), (yX1_neighbours, cX1_neighbours, 4, (some .int), 1, false), (yX1_restart, cX1_restart, 2, none, 1, false), (yX2_areLinked, cX2_areLinked, 4, (some .boolean), 2, false)]
def zMt_2 : List (MethodName × ByteArray × Nat × Option FieldType × Nat × Bool) := [(yX2_choose, cX2_choose, 4, (some .int), 2, false), (yX2_closureOf, cX2_closureOf, 5, (some .int), 2, false), (yX2_clusterAt, cX2_clusterAt, 4, (some .int), 2, false), (yX2_coefficientAt, cX2_coefficientAt, 8, (some .int), 2, false), (yX2_completeBases, cX2_completeBases, 4, none, 2, false), (yX2_gatherParts, cX2_gatherParts, 3, none, 2, false), (yX2_grow, cX2_grow, 6, none, 2, false), (yX2_howManyParts, cX2_howManyParts, 3, (some .int), 2, false), (yX2_howManySets, cX2_howManySets, 4, (some .int), 2, false), (yX2_init, cX2_init, 2, none, 2, true), (yX2_isCircuit, cX2_isCircuit, 4, (some .boolean), 2, false), (yX2_isClosed, cX2_isClosed, 5, (some .boolean), 2, false)]
def zMt_3 : List (MethodName × ByteArray × Nat × Option FieldType × Nat × Bool) := [(yX2_isCluster, cX2_isCluster, 3, (some .boolean), 2, false), (yX2_isIndependent, cX2_isIndependent, 2, (some .boolean), 2, false), (yX2_isLeastOfPart, cX2_isLeastOfPart, 2, (some .boolean), 2, false), (yX2_isOfKind, cX2_isOfKind, 3, (some .boolean), 2, false), (yX2_isSpanning, cX2_isSpanning, 2, (some .boolean), 2, false), (yX2_meetsBasesBarely, cX2_meetsBasesBarely, 5, (some .boolean), 2, false), (yX2_partAt, cX2_partAt, 4, (some .int), 2, false), (yX2_rankOf, cX2_rankOf, 2, (some .int), 2, false), (yX2_refresh, cX2_refresh, 1, none, 2, false), (yX2_setAt, cX2_setAt, 5, (some .int), 2, false), (yX2_spareBars, cX2_spareBars, 4, (some .int), 2, false), (yX2_tallyPowers, cX2_tallyPowers, 4, none, 2, false)]
def zMt_4 : List (MethodName × ByteArray × Nat × Option FieldType × Nat × Bool) := [(yX3_bearsSigns, cX3_bearsSigns, 9, (some .boolean), 3, false), (yX3_howManyPairs, cX3_howManyPairs, 1, (some .int), 3, false), (yX3_init, cX3_init, 4, none, 3, true), (yX3_lacking, cX3_lacking, 3, (some .int), 3, false), (yX3_link, cX3_link, 4, none, 3, false), (yX3_noteStress, cX3_noteStress, 9, none, 3, false), (yX3_pairRow, cX3_pairRow, 2, (some .int), 3, false), (yX3_prepare, cX3_prepare, 2, none, 3, false), (yX3_raises, cX3_raises, 6, (some .boolean), 3, false), (yX3_spanPairs, cX3_spanPairs, 4, none, 3, false), (yX3_stressSign, cX3_stressSign, 4, (some .int), 3, false), (yX3_takeOut, cX3_takeOut, 2, (some .boolean), 3, false)]
def zMt_5 : List (MethodName × ByteArray × Nat × Option FieldType × Nat × Bool) := [(yX3_writeRow, cX3_writeRow, 7, none, 3, false), (yX4_inverse, cX4_inverse, 17, (some .long), 4, false), (yX4_isBelowZero, cX4_isBelowZero, 2, (some .boolean), 4, false), (yX4_minus, cX4_minus, 4, (some .long), 4, false), (yX4_of, cX4_of, 1, (some .long), 4, false), (yX4_times, cX4_times, 18, (some .long), 4, false), (yX5_clear, cX5_clear, 3, none, 5, false), (yX5_get, cX5_get, 3, (some .long), 5, false), (yX5_init, cX5_init, 3, none, 5, true), (yX5_leadColumn, cX5_leadColumn, 3, (some .int), 5, false), (yX5_put, cX5_put, 4, none, 5, false), (yX5_reduceInto, cX5_reduceInto, 13, (some .boolean), 5, false)]
def zMt_6 : List (MethodName × ByteArray × Nat × Option FieldType × Nat × Bool) := [(yX6_at, cX6_at, 3, (some .int), 6, false), (yX6_bar, cX6_bar, 3, (some .int), 6, false), (yX6_begin, cX6_begin, 3, (some .int), 6, false), (yX6_built, cX6_built, 2, (some .int), 6, false), (yX6_closure, cX6_closure, 4, (some .int), 6, false), (yX6_cluster, cX6_cluster, 4, (some .int), 6, false), (yX6_coefficient, cX6_coefficient, 5, (some .int), 6, false), (yX6_count, cX6_count, 2, (some .int), 6, false), (yX6_end, cX6_end, 3, (some .int), 6, false), (yX6_holds, cX6_holds, 4, (some .int), 6, false), (yX6_implied, cX6_implied, 6, (some .int), 6, false), (yX6_init, cX6_init, 1, none, 6, true)]
def zMt_7 : List (MethodName × ByteArray × Nat × Option FieldType × Nat × Bool) := [(yX6_isPair, cX6_isPair, 3, (some .boolean), 6, false), (yX6_isTooFar, cX6_isTooFar, 1, (some .boolean), 6, false), (yX6_joint, cX6_joint, 5, (some .int), 6, false), (yX6_lacks, cX6_lacks, 3, (some .int), 6, false), (yX6_lineUp, cX6_lineUp, 6, (some .boolean), 6, false), (yX6_makeMatroid, cX6_makeMatroid, 2, (some (.object "RigidRanks$Matroid")), 6, false), (yX6_many, cX6_many, 4, (some .int), 6, false), (yX6_matroidOf, cX6_matroidOf, 2, (some (.object "RigidRanks$Matroid")), 6, false), (yX6_oneShape, cX6_oneShape, 3, (some .int), 6, false), (yX6_rank, cX6_rank, 4, (some .int), 6, false), (yX6_rigid, cX6_rigid, 3, (some .int), 6, false), (yX6_sign, cX6_sign, 4, (some .int), 6, false)]
def zMt_8 : List (MethodName × ByteArray × Nat × Option FieldType × Nat × Bool) := [(yX6_spare, cX6_spare, 3, (some .int), 6, false), (yX6_staysTogether, cX6_staysTogether, 3, (some .boolean), 6, false), (yX6_stressed, cX6_stressed, 6, (some .int), 6, false), (yX6_told, cX6_told, 5, (some .int), 6, false), (yX6_unbar, cX6_unbar, 1, (some .int), 6, false), (yX7_addPairs, cX7_addPairs, 7, (some .int), 7, false), (yX7_all, cX7_all, 1, (some .int), 7, false), (yX7_at, cX7_at, 3, (some .int), 7, false), (yX7_bar, cX7_bar, 7, (some .int), 7, false), (yX7_barsBetween, cX7_barsBetween, 5, (some .int), 7, false), (yX7_begin, cX7_begin, 4, (some .int), 7, false), (yX7_built, cX7_built, 4, (some .int), 7, false)]
def zMt_9 : List (MethodName × ByteArray × Nat × Option FieldType × Nat × Bool) := [(yX7_change, cX7_change, 1, none, 7, false), (yX7_choose, cX7_choose, 4, (some .int), 7, false), (yX7_clearBelow, cX7_clearBelow, 11, none, 7, false), (yX7_closure, cX7_closure, 3, (some .int), 7, false), (yX7_closureOf, cX7_closureOf, 5, (some .int), 7, false), (yX7_cluster, cX7_cluster, 8, (some .int), 7, false), (yX7_coefficient, cX7_coefficient, 6, (some .int), 7, false), (yX7_count, cX7_count, 4, (some .int), 7, false), (yX7_countedRank, cX7_countedRank, 5, (some .int), 7, false), (yX7_end, cX7_end, 3, (some .int), 7, false), (yX7_exactRank, cX7_exactRank, 3, (some .int), 7, false), (yX7_findParts, cX7_findParts, 4, none, 7, false)]
def zMt_10 : List (MethodName × ByteArray × Nat × Option FieldType × Nat × Bool) := [(yX7_findStress, cX7_findStress, 10, none, 7, false), (yX7_hangs, cX7_hangs, 6, (some .boolean), 7, false), (yX7_helped, cX7_helped, 7, (some .int), 7, false), (yX7_holds, cX7_holds, 5, (some .int), 7, false), (yX7_implied, cX7_implied, 5, (some .int), 7, false), (yX7_init, cX7_init, 1, none, 7, true), (yX7_inverse, cX7_inverse, 10, (some .long), 7, false), (yX7_isBuilt, cX7_isBuilt, 4, (some .boolean), 7, false), (yX7_isCircuit, cX7_isCircuit, 6, (some .boolean), 7, false), (yX7_isFree, cX7_isFree, 5, (some .boolean), 7, false), (yX7_isImplied, cX7_isImplied, 7, (some .boolean), 7, false), (yX7_isIn, cX7_isIn, 3, (some .boolean), 7, false)]
def zMt_11 : List (MethodName × ByteArray × Nat × Option FieldType × Nat × Bool) := [(yX7_isJoint, cX7_isJoint, 2, (some .boolean), 7, false), (yX7_isKind, cX7_isKind, 7, (some .boolean), 7, false), (yX7_isLeastMeeting, cX7_isLeastMeeting, 5, (some .boolean), 7, false), (yX7_isMeeting, cX7_isMeeting, 3, (some .boolean), 7, false), (yX7_isRigid, cX7_isRigid, 5, (some .boolean), 7, false), (yX7_isSet, cX7_isSet, 2, (some .boolean), 7, false), (yX7_isSort, cX7_isSort, 2, (some .boolean), 7, false), (yX7_isWay, cX7_isWay, 1, (some .boolean), 7, false), (yX7_isWhole, cX7_isWhole, 5, (some .boolean), 7, false), (yX7_joint, cX7_joint, 7, (some .int), 7, false), (yX7_lacks, cX7_lacks, 6, (some .int), 7, false), (yX7_left, cX7_left, 6, (some .long), 7, false)]
def zMt_12 : List (MethodName × ByteArray × Nat × Option FieldType × Nat × Bool) := [(yX7_many, cX7_many, 5, (some .int), 7, false), (yX7_minorBy, cX7_minorBy, 9, (some .long), 7, false), (yX7_nextOrder, cX7_nextOrder, 6, (some .boolean), 7, false), (yX7_oneShape, cX7_oneShape, 4, (some .int), 7, false), (yX7_ones, cX7_ones, 3, (some .int), 7, false), (yX7_part, cX7_part, 6, (some .int), 7, false), (yX7_prepare, cX7_prepare, 3, none, 7, false), (yX7_putPair, cX7_putPair, 3, none, 7, false), (yX7_putRow, cX7_putRow, 7, none, 7, false), (yX7_putSet, cX7_putSet, 4, none, 7, false), (yX7_rank, cX7_rank, 3, (some .int), 7, false), (yX7_rankBy, cX7_rankBy, 6, (some .int), 7, false)]
def zMt_13 : List (MethodName × ByteArray × Nat × Option FieldType × Nat × Bool) := [(yX7_rankOf, cX7_rankOf, 3, (some .int), 7, false), (yX7_rankOfRows, cX7_rankOfRows, 3, (some .int), 7, false), (yX7_rigid, cX7_rigid, 2, (some .int), 7, false), (yX7_sign, cX7_sign, 4, (some .int), 7, false), (yX7_spare, cX7_spare, 2, (some .int), 7, false), (yX7_spareOf, cX7_spareOf, 4, (some .int), 7, false), (yX7_stressed, cX7_stressed, 4, (some .int), 7, false), (yX7_swapRows, cX7_swapRows, 6, none, 7, false), (yX7_term, cX7_term, 2, (some .int), 7, false), (yX7_together, cX7_together, 10, (some .long), 7, false), (yX7_told, cX7_told, 7, (some .int), 7, false), (yX7_tryPair, cX7_tryPair, 4, (some .boolean), 7, false)]
def zMt_14 : List (MethodName × ByteArray × Nat × Option FieldType × Nat × Bool) := [(yX7_unbar, cX7_unbar, 1, (some .int), 7, false)]
def zMt0 : List (MethodName × ByteArray × Nat × Option FieldType × Nat × Bool) := zMt_0 ++ (zMt_1 ++ (zMt_2 ++ (zMt_3 ++ (zMt_4 ++ (zMt_5 ++ (zMt_6 ++ (zMt_7 ++ (zMt_8 ++ (zMt_9 ++ (zMt_10 ++ (zMt_11 ++ (zMt_12 ++ (zMt_13 ++ (zMt_14))))))))))))))
def zMt : List (MethodName × ByteArray × Nat × Option FieldType × Nat × Bool) := zMt0 ++ [(yL_law, cL_law, 4, (some .boolean), 8, false)]
/-- a call: the class that names it, its number there; its kind (0 a constructor, 1 a nest mate's, 2 static, 3 virtual, 4 inherited, 5 abstract, 6 Object's, 7 arraycopy, 8 min, 9 max); the receiver's class; the method; how many arguments -/
def zCl_0 : List (Nat × Nat × Nat × Nat × Nat × Nat) := [(0, 3, 0, 0, 33, 1), (0, 18, 2, 0, 0, 1), (0, 28, 3, 1, 10, 0), (0, 34, 2, 0, 6, 1), (0, 47, 7, 0, 0, 5), (0, 56, 2, 0, 1, 2), (0, 65, 3, 0, 5, 1), (0, 72, 3, 1, 9, 0), (0, 75, 4, 0, 43, 1), (1, 3, 6, 0, 0, 0), (1, 34, 2, 0, 1, 2), (1, 40, 3, 1, 9, 0), (1, 44, 3, 1, 21, 1), (1, 48, 8, 0, 0, 2), (1, 54, 9, 0, 0, 2), (2, 3, 6, 0, 0, 0), (2, 37, 5, 0, 7, 0), (2, 37, 5, 2, 55, 0), (2, 40, 4, 0, 30, 3), (2, 40, 4, 2, 30, 3), (2, 44, 4, 0, 28, 0), (2, 44, 4, 2, 28, 0), (2, 50, 5, 0, 8, 3), (2, 50, 5, 2, 56, 3), (2, 54, 2, 0, 0, 1), (2, 60, 4, 0, 43, 1), (2, 60, 4, 2, 43, 1), (2, 63, 3, 1, 9, 0), (2, 67, 4, 0, 37, 1), (2, 67, 4, 2, 37, 1), (2, 71, 4, 0, 40, 1), (2, 71, 4, 2, 40, 1), (2, 74, 4, 0, 34, 1), (2, 74, 4, 2, 34, 1), (2, 77, 4, 0, 35, 1), (2, 77, 4, 2, 35, 1), (2, 80, 4, 0, 41, 1), (2, 80, 4, 2, 41, 1), (2, 83, 4, 0, 39, 2), (2, 83, 4, 2, 39, 2), (2, 87, 4, 0, 29, 0), (2, 87, 4, 2, 29, 0), (2, 90, 4, 0, 38, 1), (2, 90, 4, 2, 38, 1), (2, 93, 2, 0, 1, 2), (2, 99, 4, 0, 47, 0), (2, 99, 4, 2, 47, 0), (2, 102, 2, 0, 24, 2), (2, 109, 4, 0, 23, 1), (2, 109, 4, 2, 23, 1), (2, 112, 3, 1, 10, 0), (2, 115, 4, 0, 36, 1), (2, 115, 4, 2, 36, 1), (3, 3, 0, 0, 33, 1), (3, 25, 0, 0, 68, 2), (3, 36, 3, 3, 66, 1), (3, 49, 3, 3, 70, 3), (3, 62, 3, 2, 60, 4), (3, 66, 3, 3, 69, 1), (3, 70, 3, 2, 53, 3)]
def zCl_1 : List (Nat × Nat × Nat × Nat × Nat × Nat) := [(3, 73, 3, 3, 67, 2), (3, 77, 2, 0, 65, 2), (3, 83, 3, 3, 71, 4), (3, 87, 2, 0, 62, 1), (3, 94, 3, 2, 49, 0), (3, 98, 2, 0, 54, 2), (3, 102, 3, 2, 59, 1), (3, 109, 2, 0, 1, 2), (3, 115, 3, 2, 57, 1), (3, 118, 3, 1, 9, 0), (3, 121, 3, 1, 11, 1), (3, 124, 4, 2, 34, 1), (5, 1, 6, 0, 0, 0), (5, 20, 2, 0, 64, 1), (5, 26, 3, 3, 69, 1), (5, 30, 3, 3, 67, 2), (5, 34, 2, 0, 61, 1), (5, 38, 2, 0, 65, 2), (5, 42, 7, 0, 0, 5), (5, 48, 2, 0, 63, 2), (6, 3, 6, 0, 0, 0), (6, 30, 3, 1, 22, 1), (6, 34, 3, 1, 15, 1), (6, 38, 2, 0, 85, 1), (6, 41, 3, 1, 20, 4), (6, 45, 3, 4, 84, 2), (6, 49, 3, 1, 18, 2), (6, 55, 3, 1, 19, 2), (6, 59, 3, 1, 12, 0), (6, 63, 3, 1, 14, 1), (6, 69, 3, 1, 11, 1), (6, 82, 3, 4, 91, 1), (6, 86, 3, 1, 16, 1), (6, 89, 4, 0, 43, 1), (6, 89, 4, 2, 43, 1), (6, 92, 4, 0, 25, 1), (6, 92, 4, 2, 25, 1), (6, 95, 5, 0, 4, 1), (6, 95, 5, 2, 52, 1), (6, 101, 5, 0, 3, 0), (6, 101, 5, 2, 51, 0), (6, 104, 4, 0, 46, 0), (6, 104, 4, 2, 46, 0), (6, 107, 4, 0, 31, 0), (6, 107, 4, 2, 31, 0), (6, 110, 4, 0, 32, 1), (6, 110, 4, 2, 32, 1), (6, 113, 4, 0, 42, 1), (6, 113, 4, 2, 42, 1), (6, 116, 4, 0, 45, 2), (6, 116, 4, 2, 45, 2), (6, 119, 4, 0, 27, 2), (6, 119, 4, 2, 27, 2), (6, 122, 3, 1, 9, 0), (6, 125, 4, 0, 26, 1), (6, 125, 4, 2, 26, 1), (6, 130, 4, 2, 34, 1), (6, 133, 3, 2, 58, 2), (6, 136, 3, 2, 51, 0), (6, 137, 3, 2, 48, 0)]
def zCl_2 : List (Nat × Nat × Nat × Nat × Nat × Nat) := [(6, 141, 3, 4, 88, 2), (6, 144, 3, 4, 97, 0), (6, 147, 3, 4, 89, 1), (6, 150, 4, 0, 44, 0), (6, 150, 4, 2, 44, 0), (6, 153, 0, 0, 50, 2), (6, 158, 0, 0, 2, 1), (6, 161, 8, 0, 0, 2), (6, 166, 3, 1, 21, 1), (6, 169, 2, 0, 0, 1), (6, 174, 3, 1, 10, 0), (6, 177, 3, 1, 13, 1), (7, 1, 6, 0, 0, 0), (7, 67, 3, 5, 108, 0), (7, 70, 2, 0, 131, 3), (7, 77, 3, 5, 132, 1), (7, 81, 2, 0, 139, 1), (7, 90, 3, 5, 152, 3), (7, 96, 2, 0, 143, 2), (7, 104, 3, 5, 163, 2), (7, 108, 3, 5, 110, 3), (7, 112, 2, 0, 126, 2), (7, 117, 3, 5, 155, 1), (7, 126, 2, 0, 148, 1), (7, 130, 3, 5, 151, 2), (7, 133, 3, 5, 129, 0), (7, 137, 3, 5, 118, 2), (7, 141, 3, 5, 116, 1), (7, 144, 3, 5, 153, 2), (7, 147, 3, 5, 157, 0), (7, 151, 3, 5, 102, 0), (7, 154, 3, 5, 150, 1), (7, 158, 3, 5, 138, 1), (7, 161, 3, 5, 137, 1), (7, 164, 3, 5, 156, 2), (7, 167, 3, 5, 112, 2), (7, 170, 3, 5, 167, 2), (7, 174, 3, 5, 130, 4), (7, 178, 3, 5, 136, 1), (7, 181, 3, 5, 101, 3), (7, 185, 3, 5, 161, 1), (7, 188, 3, 5, 135, 2), (7, 191, 3, 5, 128, 2), (7, 194, 3, 5, 134, 2), (7, 197, 3, 5, 119, 1), (7, 203, 3, 5, 149, 2), (7, 206, 3, 5, 133, 3), (7, 209, 2, 0, 109, 2), (7, 212, 2, 0, 164, 2), (7, 215, 3, 5, 140, 1), (7, 220, 3, 5, 145, 4), (7, 224, 2, 0, 165, 2), (7, 229, 3, 5, 120, 2), (7, 232, 3, 5, 122, 1), (7, 235, 3, 5, 105, 2), (7, 238, 3, 5, 127, 0), (7, 241, 3, 5, 146, 0), (7, 244, 3, 5, 121, 1), (8, 9, 0, 0, 83, 0), (8, 12, 0, 0, 125, 0)]
def zCl_3 : List (Nat × Nat × Nat × Nat × Nat × Nat) := [(8, 13, 3, 4, 74, 1), (8, 17, 3, 5, 106, 1), (8, 18, 3, 4, 86, 4), (8, 22, 3, 5, 141, 4), (8, 23, 3, 4, 73, 2), (8, 27, 3, 5, 104, 2), (8, 28, 3, 4, 100, 0), (8, 32, 3, 5, 168, 0), (8, 33, 3, 4, 95, 2), (8, 36, 3, 5, 159, 2), (8, 37, 3, 4, 79, 1), (8, 40, 3, 5, 115, 1), (8, 41, 3, 4, 80, 2), (8, 44, 3, 5, 117, 2), (8, 45, 3, 4, 72, 2), (8, 48, 3, 5, 103, 2), (8, 49, 3, 4, 93, 2), (8, 52, 3, 5, 154, 2), (8, 53, 3, 4, 76, 2), (8, 56, 3, 5, 111, 2), (8, 57, 3, 4, 82, 4), (8, 60, 3, 5, 124, 4), (8, 61, 3, 4, 94, 1), (8, 64, 3, 5, 158, 1), (8, 65, 3, 4, 87, 1), (8, 68, 3, 5, 142, 1), (8, 69, 3, 4, 96, 1), (8, 72, 3, 5, 160, 1), (8, 73, 3, 4, 90, 2), (8, 76, 3, 5, 144, 2), (8, 77, 3, 4, 99, 3), (8, 81, 3, 5, 166, 3), (8, 82, 3, 4, 78, 3), (8, 85, 3, 5, 114, 3), (8, 86, 3, 4, 77, 2), (8, 89, 3, 5, 113, 2), (8, 90, 3, 4, 98, 3), (8, 93, 3, 5, 162, 3), (8, 94, 3, 4, 81, 1), (8, 97, 3, 5, 123, 1), (8, 98, 3, 4, 75, 1), (8, 101, 3, 5, 107, 1), (8, 102, 3, 4, 92, 0), (8, 105, 3, 5, 147, 0), (6, 11, 1, 0, 17, 0)]
def zCl : List (Nat × Nat × Nat × Nat × Nat × Nat) := zCl_0 ++ (zCl_1 ++ (zCl_2 ++ (zCl_3)))
def zCx_0 : List (List Nat) := [[323, 252], [356, 357], [349, 350, 351], [353, 354], [], [473, 159], [474, 476, 27], [507, 442, 443], [0, 446, 508, 509, 511], [], [158, 159], [441, 442, 443], [188, 189, 190], [], [], [], [347, 343, 345, 346], [363, 343, 345, 362], [2, 383, 381, 1029, 0], [2, 383, 381, 1029, 11], [2, 435, 433, 1030, 1], [2, 435, 433, 1030, 12], [389, 385, 387, 388], [395, 385, 387, 394], [451, 357], [2, 446, 462, 447, 448], [2, 446, 462, 447, 449], [530, 442, 443], [2, 552, 551, 553, 554], [2, 552, 551, 553, 555], [2, 573, 571, 1034, 5], [2, 573, 571, 1034, 16], [2, 546, 545, 547, 548], [2, 546, 545, 547, 549], [2, 577, 575, 1035, 6], [2, 577, 575, 1035, 17], [2, 581, 579, 1036, 7], [2, 581, 579, 1036, 18], [2, 569, 567, 1033, 4], [2, 569, 567, 1033, 15], [2, 543, 541, 1031, 2], [2, 543, 541, 1031, 13], [2, 559, 557, 1032, 3], [2, 559, 557, 1032, 14], [613, 159], [2, 611, 609, 1037, 8], [2, 611, 609, 1037, 19], [614, 615], [2, 635, 633, 1039, 10], [2, 635, 633, 1039, 21], [628, 350, 351], [2, 631, 629, 1038, 9], [2, 631, 629, 1038, 20], [251, 252], [258, 259], [369, 370, 371], [373, 374, 375], [365, 367, 25], [397, 398, 399], [401, 403, 26]]
def zCx_1 : List (List Nat) := [[405, 406, 407], [409, 410], [419, 420, 421], [415, 416], [493, 495, 30], [486, 487], [489, 491, 29], [481, 159], [482, 484, 28], [515, 442, 443], [658, 223, 224], [3, 546, 659, 642, 644], [], [377, 378], [423, 398, 399], [424, 406, 407], [425, 426], [428, 410], [], [430, 431], [], [154, 155, 156], [165, 166, 167], [169, 170], [172, 173, 174], [180, 182, 22], [184, 185, 186], [192, 193, 194], [206, 207, 208], [214, 215, 216], [222, 223, 224], [238, 240, 23], [437, 438, 439], [2, 446, 445, 447, 448], [2, 446, 445, 447, 449], [2, 457, 456, 458, 459], [2, 457, 456, 458, 460], [471, 467, 469, 470], [479, 467, 469, 478], [505, 501, 503, 504], [513, 501, 503, 512], [2, 525, 524, 526, 527], [2, 525, 524, 526, 528], [2, 536, 535, 537, 538], [2, 536, 535, 537, 539], [2, 562, 561, 563, 564], [2, 562, 561, 563, 565], [2, 588, 587, 589, 590], [2, 588, 587, 589, 591], [2, 594, 593, 595, 596], [2, 594, 593, 595, 597], [2, 604, 603, 605, 606], [2, 604, 603, 605, 607], [621, 442, 443], [2, 623, 622, 624, 625], [2, 623, 622, 624, 626], [3, 546, 641, 642, 644], [645, 646, 647], [653, 513, 1040], [654, 655, 656]]
def zCx_2 : List (List Nat) := [[664, 666, 31], [675, 677, 32], [242, 244, 24], [2, 338, 337, 339, 340], [2, 338, 337, 339, 341], [248, 249], [320, 321], [], [669, 189, 190], [670, 357], [679, 350, 351], [680, 681, 682], [], [690, 692, 33], [772, 773], [779, 781, 34], [783, 784], [842, 844, 42], [855, 856], [858, 860, 45], [862, 864, 46], [866, 867], [851, 853, 44], [883, 884], [875, 877, 48], [879, 881, 49], [834, 836, 40], [871, 873, 47], [838, 840, 41], [846, 848, 43], [822, 824, 37], [830, 832, 39], [814, 816, 35], [818, 820, 36], [826, 828, 38], [890, 892, 50], [902, 904, 52], [898, 900, 51], [910, 912, 53], [918, 920, 54], [926, 928, 55], [954, 956, 61], [942, 944, 58], [950, 952, 60], [938, 940, 57], [934, 936, 56], [946, 948, 59], [969, 970], [966, 967], [976, 978, 62], [988, 990, 64], [992, 993], [984, 986, 63], [1001, 1003, 65], [1013, 1015, 67], [1009, 1011, 66], [1017, 1019, 68], [1025, 1027, 69], [85, 86], [686, 687]]
def zCx_3 : List (List Nat) := [[150, 151, 152], [768, 769, 770], [161, 162, 163], [775, 776, 777], [176, 177, 178], [786, 787, 788], [202, 203, 204], [790, 791, 792], [210, 211, 212], [794, 795, 796], [218, 219, 220], [798, 799, 800], [226, 227, 228], [802, 803, 804], [230, 231, 232], [806, 807, 808], [234, 235, 236], [810, 811, 812], [452, 453, 454], [886, 887, 888], [463, 464, 465], [894, 895, 896], [497, 498, 499], [906, 907, 908], [516, 517, 518], [914, 915, 916], [520, 521, 522], [922, 923, 924], [531, 532, 533], [930, 931, 932], [583, 584, 585], [958, 959, 960], [599, 600, 601], [962, 963, 964], [617, 618, 619], [972, 973, 974], [637, 638, 639], [980, 981, 982], [649, 650, 651], [997, 998, 999], [660, 661, 662], [1005, 1006, 1007], [671, 672, 673], [1021, 1022, 1023], [94]]
/-- private methods of the abstract class, on objects of the classes below it -/
def zSel : List (Nat × MethodName) := [(0, yX2_grow), (0, yX2_completeBases), (0, yX2_gatherParts), (0, yX2_isLeastOfPart), (0, yX2_isOfKind), (0, yX2_isSpanning), (0, yX2_isClosed), (0, yX2_meetsBasesBarely), (0, yX2_tallyPowers), (0, yX2_isCluster), (0, yX2_areLinked), (3, yX2_grow), (3, yX2_completeBases), (3, yX2_gatherParts), (3, yX2_isLeastOfPart), (3, yX2_isOfKind), (3, yX2_isSpanning), (3, yX2_isClosed), (3, yX2_meetsBasesBarely), (3, yX2_tallyPowers), (3, yX2_isCluster), (3, yX2_areLinked)]
def zMx_0 : List (Nat × Nat) := [(358, 80), (160, 74), (322, 79), (506, 79), (472, 79), (477, 79), (355, 79), (348, 79), (390, 79), (444, 72), (352, 72), (225, 72)]
def zMx_1 : List (Nat × Nat) := [(209, 72), (683, 72), (217, 72), (168, 72), (440, 72), (95, 72), (187, 72), (195, 72), (175, 72), (191, 72), (157, 72), (636, 76)]
def zMx_2 : List (Nat × Nat) := [(616, 76), (461, 76), (627, 76), (608, 76), (436, 76), (544, 76), (384, 76), (540, 76), (566, 76), (253, 76), (550, 76), (578, 76)]
def zMx_3 : List (Nat × Nat) := [(632, 76), (556, 76), (560, 76), (570, 76), (574, 76), (582, 76), (592, 76), (450, 76), (342, 76), (598, 76), (529, 76), (612, 76)]
def zMx_4 : List (Nat × Nat) := [(657, 77), (496, 77), (250, 77), (514, 77), (480, 77), (404, 77), (488, 77), (364, 77), (396, 77), (485, 77), (648, 77), (492, 77)]
def zMx_5 : List (Nat × Nat) := [(368, 77), (427, 81), (417, 81), (432, 81), (379, 81), (411, 81), (372, 78), (408, 78), (260, 78), (400, 78), (376, 78), (422, 78)]
def zMx_6 : List (Nat × Nat) := [(233, 71), (179, 71), (153, 71), (663, 71), (455, 71), (620, 71), (602, 71), (221, 71), (229, 71), (652, 71), (466, 71), (87, 71)]
def zMx_7 : List (Nat × Nat) := [(183, 71), (171, 71), (164, 71), (519, 71), (667, 71), (245, 71), (534, 71), (241, 71), (674, 71), (237, 71), (500, 71), (213, 71)]
def zMx_8 : List (Nat × Nat) := [(523, 71), (678, 71), (640, 71), (586, 71), (205, 71), (921, 73), (825, 73), (809, 73), (789, 73), (1016, 73), (771, 73), (1008, 73)]
def zMx_9 : List (Nat × Nat) := [(693, 73), (971, 73), (865, 73), (889, 73), (893, 73), (975, 73), (965, 73), (801, 73), (874, 73), (805, 73), (837, 73), (941, 73)]
def zMx_10 : List (Nat × Nat) := [(987, 73), (1028, 73), (1004, 73), (1000, 73), (897, 73), (688, 73), (868, 73), (1012, 73), (945, 73), (882, 73), (901, 73), (774, 73)]
def zMx_11 : List (Nat × Nat) := [(782, 73), (949, 73), (953, 73), (957, 73), (913, 73), (821, 73), (817, 73), (785, 73), (979, 73), (778, 73), (917, 73), (857, 73)]
def zMx_12 : List (Nat × Nat) := [(933, 73), (991, 73), (1020, 73), (1024, 73), (885, 73), (937, 73), (833, 73), (878, 73), (845, 73), (841, 73), (813, 73), (854, 73)]
def zMx_13 : List (Nat × Nat) := [(829, 73), (849, 73), (909, 73), (797, 73), (925, 73), (929, 73), (983, 73), (861, 73), (968, 73), (994, 73), (961, 73), (905, 73)]
def zMx_14 : List (Nat × Nat) := [(793, 73)]
end
section
/-- 'selects' of a private method of an abstract class, on an object of a class below it -/
theorem z_sel {C : String} {y : MethodName} {n : Nat} {s : State} {args : Array Value} (hins : (Cond.instantiable C n).before args s = true) (hpriv : (Cond.privateMethod y).before args s = true) (hinst : (Cond.instanceMethod y).before args s = true) (hsame : (Cond.sameMethod y.cls y.cls y.name y.desc).before args s = true) : (Cond.selects C y y).before args s = true := by
  obtain ⟨c, k, hc, hk, -, -, -, -⟩ := Cond.instantiable_spec hins
  obtain ⟨mk, methM, hnamed, hmethM, -, -⟩ := Cond.instanceMethod_spec hinst
  obtain ⟨cn, ck, r1, hcn, hck, hni, hf, hn1⟩ := Cond.sameMethod_found hsame
  obtain rfl : mk = r1 := Option.some.inj (hnamed.symm.trans hn1)
  have hcls : mk.cls = cn := Option.some.inj ((findClass_of_methodNamed hnamed).symm.trans hcn)
  have hsel : selectMethod {} s.vm c mk = .method mk := selectMethod_private hmethM (Cond.privateMethod_at hpriv mk methM hnamed hmethM)
  simp only [Cond.before, Cond.holds, Cond.value, hc, hf, hnamed, hsel, hcls, hck]
  simp; exact hni
def lz_sel : List Cond := zSel.map fun q => Cond.selects (zOwn q.1) q.2 q.2
def lz_tbl : List Cond := lz_sel ++ lw_tbl
def zSelB (q : Nat × MethodName) : Bool := (decide (Cond.instantiable (zOwn q.1) 8 ∈ tables_1) || decide (Cond.instantiable (zOwn q.1) 11 ∈ tables_1)) && decide (Cond.privateMethod q.2 ∈ tables_1) && decide (Cond.instanceMethod q.2 ∈ tables_1) && decide (Cond.sameMethod q.2.cls q.2.cls q.2.name q.2.desc ∈ tables_1)
theorem zSel_ok : zSel.all zSelB = true := by decide +kernel
theorem lz_hts {args : Array Value} {s : State} (hts : ∀ w ∈ lw_tbl, w.before args s = true) : ∀ w ∈ lz_tbl, w.before args s = true := by
  intro w hw
  rcases List.mem_append.mp hw with h | h
  · obtain ⟨q, hq, rfl⟩ := List.mem_map.mp h
    have h1 := List.all_eq_true.mp zSel_ok q hq
    unfold zSelB at h1
    simp only [Bool.and_eq_true, Bool.or_eq_true, decide_eq_true_eq] at h1
    obtain ⟨⟨⟨g1, g2⟩, g3⟩, g4⟩ := h1
    have t : ∀ {w : Cond}, w ∈ tables_1 → w.before args s = true := fun h => hts _ (List.mem_append_right _ h)
    rcases g1 with g1 | g1
    · exact z_sel (t g1) (t g2) (t g3) (t g4)
    · exact z_sel (t g1) (t g2) (t g3) (t g4)
  · exact hts w h
/-- the words that go with every call -/
def zT : List Cond := lz_tbl.filter goodWord
theorem zT_in {w : Cond} (h : w ∈ zT) : w ∈ lz_tbl := (List.mem_filter.mp h).1
theorem zT_good {w : Cond} (h : w ∈ zT) : goodWord w = true := (List.mem_filter.mp h).2
/-- a word at its place -/
def zat (k : Nat) (w : Cond) : Bool := match lz_tbl[k]? with
  | some u => decide (u = w) && goodWord w
  | none => false
theorem zat_in {k : Nat} {w : Cond} (h : zat k w = true) : w ∈ zT := by
  unfold zat at h
  split at h
  · rename_i u hu
    simp only [Bool.and_eq_true, decide_eq_true_eq] at h
    obtain ⟨rfl, h2⟩ := h
    exact List.mem_filter.mpr ⟨List.mem_of_getElem? hu, h2⟩
  · cases h
/-! THE SMALL MACHINE, its heap: contents by address (an array by its kind: 0 ints, 1 longs, 2 booleans, 3 Matroids, 4 Sheets, 9 the script; an object by its class's place in vwCl), the next address, slots so far -/
abbrev zW : Type := (Nat → Option va_E) × Nat × Nat
abbrev zY : Type := va_G × (Nat → ClassId)
def ztys (Y : zY) : List (ClassId × FieldType) := [(Y.2 0, .int), (Y.2 1, .long), (Y.2 2, .boolean), (Y.2 3, .object RX2), (Y.2 4, .object RX5)]
def zc (Y : zY) (e : va_E) : va_E := match e with
  | .inl (k, x) => .inl (Y.2 k, x)
  | .inr o => .inr o
def zw (Y : zY) (z0 : Nat) (U : State) (H : Heap) (w : zW) : Prop := H.size = w.2.1 ∧ ∃ ws : va_W, va_P Y.1 vwCl ws H ∧ va_D (fun q => z0 ≤ q) ws ∧ ∀ (a : Nat) (e : va_E), w.1 a = some e → (∃ k : Nat, ws[k]? = some (a, zc Y e)) ∨ ∃ (L : Nat) (xs : Nat → Int32), e = .inl (9, L, .inl xs) ∧ a < z0 ∧ va_X a L xs U H
/-- fields and calls by number -/
def zfl (o idx : Nat) : Option (Nat × List Nat) := (zFl.find? (fun e => e.1 == o && e.2.1 == idx)).map (fun e => e.2.2.2)
def zFlB (e : Nat × Nat × String × Nat × List Nat) : Bool := e.2.2.2.2.all (fun ci => match vwCl[ci]? with
  | some (_, T, N) => decide (e.2.2.2.1 < N) && decide (Cond.fieldLink (zOwn e.1) e.2.1 e.2.2.1 (T e.2.2.2.1).2.1 (T e.2.2.2.1).2.2.1 ∈ zT) && (decide ((T e.2.2.2.1).1 = e.2.2.1) || decide (Cond.sameField e.2.2.1 (T e.2.2.2.1).1 (T e.2.2.2.1).2.1 (T e.2.2.2.1).2.2.1 ∈ zT))
  | none => false)
theorem zFl_ok : zFl.all zFlB = true := by decide +kernel
def zlays (ci : Nat) : Bool := match vwCl[ci]? with
  | some (C, T, N) => (u_ws C T N).all (fun w => decide (w ∈ zT))
  | none => true
theorem zlays_ok : (List.range 6).all zlays = true := by decide +kernel
theorem zlays_in {ci : Nat} {C : String} {T : u_T} {N : Nat} (h : vwCl[ci]? = some (C, T, N)) : ∀ w ∈ u_ws C T N, w ∈ zT := by
  have hlt : ci < 6 := (List.getElem?_eq_some_iff.mp h).1
  have h1 := List.all_eq_true.mp zlays_ok ci (List.mem_range.mpr hlt)
  unfold zlays at h1
  rw [h] at h1
  intro w hw
  have h2 := List.all_eq_true.mp h1 w hw
  exact of_decide_eq_true h2
theorem zfl_inv {o idx k : Nat} {cs : List Nat} (h : zfl o idx = some (k, cs)) {ci : Nat} (hc : ci ∈ cs) : ∃ (ref C : String) (T : u_T) (N : Nat), vwCl[ci]? = some (C, T, N) ∧ k < N ∧ Cond.fieldLink (zOwn o) idx ref (T k).2.1 (T k).2.2.1 ∈ zT ∧ ((T k).1 = ref ∨ Cond.sameField ref (T k).1 (T k).2.1 (T k).2.2.1 ∈ zT) := by
  unfold zfl at h
  cases hf : zFl.find? (fun e => e.1 == o && e.2.1 == idx) with
  | none => rw [hf] at h; cases h
  | some e =>
    rw [hf] at h
    simp only [Option.map_some, Option.some.injEq] at h
    have hm := List.mem_of_find?_eq_some hf
    have hp := List.find?_some hf
    simp only [Bool.and_eq_true, beq_iff_eq] at hp
    have h1 := List.all_eq_true.mp zFl_ok e hm
    obtain ⟨o', i', ref, k', cs'⟩ := e
    dsimp only at h hp h1
    obtain ⟨rfl, rfl⟩ := hp
    cases h
    unfold zFlB at h1
    have h2 := List.all_eq_true.mp h1 ci hc
    cases hv : vwCl[ci]? with
    | none => rw [hv] at h2; cases h2
    | some q =>
      obtain ⟨C, T, N⟩ := q
      rw [hv] at h2
      simp only [Bool.and_eq_true, Bool.or_eq_true, decide_eq_true_eq] at h2
      exact ⟨ref, C, T, N, rfl, h2.1.1, h2.1.2, h2.2⟩
theorem zsame {args : Array Value} {s : State} {ref : String} {T : u_T} {k : Nat} (hts : ∀ w ∈ zT, w.before args s = true) (h : (T k).1 = ref ∨ Cond.sameField ref (T k).1 (T k).2.1 (T k).2.2.1 ∈ zT) : ∀ x, s.fieldFound? (T k).1 (T k).2.1 (T k).2.2.1 = some x → s.fieldFound? ref (T k).2.1 (T k).2.2.1 = some x := by
  intro x hx
  rcases h with h | h
  · rw [← h]; exact hx
  · exact u_same (hts _ h) x hx
end
section
/-! reads and stores of the small machine, and that the machine does the same -/
abbrev zG : Type := Nat × List Value × zW
def zbd (i : Int32) (N : Nat) : Bool := !(decide (i < 0 ∨ N ≤ i.toNatClampNeg))
def zHget (o idx len pc : Nat) (st : List Value) (w : zW) : Option zG := match st with
  | .ref a :: r => match w.1 a, zfl o idx with
    | some (.inr (ci, fs)), some (k, cs) => if len = 3 ∧ ci ∈ cs then (match fs[k]? with
      | some v => some (pc + 3, v :: r, w)
      | none => none) else none
    | _, _ => none
  | _ => none
def zHia (len pc : Nat) (st : List Value) (w : zW) : Option zG := match st with
  | .int i :: .ref a :: r => match w.1 a with
    | some (.inl (kd, N, .inl f)) => if len = 1 ∧ (kd = 0 ∨ kd = 9) ∧ zbd i N = true then some (pc + 1, .int (f i.toNatClampNeg) :: r, w) else none
    | _ => none
  | _ => none
def zHba (len pc : Nat) (st : List Value) (w : zW) : Option zG := match st with
  | .int i :: .ref a :: r => match w.1 a with
    | some (.inl (kd, N, .inl f)) => if len = 1 ∧ kd = 2 ∧ zbd i N = true then some (pc + 1, .int (f i.toNatClampNeg) :: r, w) else none
    | _ => none
  | _ => none
def zHla (len pc : Nat) (st : List Value) (w : zW) : Option zG := match st with
  | .int i :: .ref a :: r => match w.1 a with
    | some (.inl (kd, N, .inr (.inl f))) => if len = 1 ∧ kd = 1 ∧ zbd i N = true then some (pc + 1, .long (f i.toNatClampNeg) :: r, w) else none
    | _ => none
  | _ => none
def zHaa (len pc : Nat) (st : List Value) (w : zW) : Option zG := match st with
  | .int i :: .ref a :: r => match w.1 a with
    | some (.inl (kd, N, .inr (.inr (.inr (.inr f))))) => if len = 1 ∧ (kd = 3 ∨ kd = 4) ∧ zbd i N = true then some (pc + 1, va_rf (f i.toNatClampNeg) :: r, w) else none
    | _ => none
  | _ => none
def zHal (len pc : Nat) (st : List Value) (w : zW) : Option zG := match st with
  | .ref a :: r => match w.1 a with
    | some (.inl (kd, N, _)) => if len = 1 ∧ (kd = 0 ∨ kd = 1 ∨ kd = 2 ∨ kd = 3 ∨ kd = 4 ∨ kd = 9) then some (pc + 1, .int (Int32.ofNat N) :: r, w) else none
    | _ => none
  | _ => none
def zHis (len pc : Nat) (st : List Value) (w : zW) : Option zG := match st with
  | .int x :: .int i :: .ref a :: r => match w.1 a with
    | some (.inl (kd, N, .inl f)) => if len = 1 ∧ kd = 0 ∧ zbd i N = true then some (pc + 1, r, (va_up w.1 a (some (.inl (0, N, .inl (upd f i.toNatClampNeg x)))), w.2)) else none
    | _ => none
  | _ => none
def zHbs (len pc : Nat) (st : List Value) (w : zW) : Option zG := match st with
  | .int x :: .int i :: .ref a :: r => match w.1 a with
    | some (.inl (kd, N, .inl f)) => if len = 1 ∧ kd = 2 ∧ zbd i N = true then some (pc + 1, r, (va_up w.1 a (some (.inl (2, N, .inl (upd f i.toNatClampNeg (vp_nar .boolean x))))), w.2)) else none
    | _ => none
  | _ => none
def zHls (len pc : Nat) (st : List Value) (w : zW) : Option zG := match st with
  | .long x :: .int i :: .ref a :: r => match w.1 a with
    | some (.inl (kd, N, .inr (.inl f))) => if len = 1 ∧ kd = 1 ∧ zbd i N = true then some (pc + 1, r, (va_up w.1 a (some (.inl (1, N, .inr (.inl (vp_updL f i.toNatClampNeg x))))), w.2)) else none
    | _ => none
  | _ => none
theorem zbd_inv {i : Int32} {N : Nat} (h : zbd i N = true) : vp_in i N := by
  unfold zbd at h
  simp only [Bool.not_eq_true', decide_eq_false_iff_not] at h
  exact h
theorem zw.obj {Y : zY} {z0 : Nat} {s : State} {H : Heap} {w : zW} {a ci : Nat} {fs : List Value} (hw : zw Y z0 s H w) (h : w.1 a = some (.inr (ci, fs))) : ∃ (ws : va_W) (k : Nat), va_P Y.1 vwCl ws H ∧ va_D (fun q => z0 ≤ q) ws ∧ ws[k]? = some (a, .inr (ci, fs)) := by
  obtain ⟨-, ws, hP, hD, hA⟩ := hw
  rcases hA a _ h with ⟨k, hk⟩ | ⟨L, xs, he, -⟩
  · exact ⟨ws, k, hP, hD, hk⟩
  · cases he
theorem zw.arr {Y : zY} {z0 : Nat} {s : State} {H : Heap} {w : zW} {a kd : Nat} {x : vp_A} (hw : zw Y z0 s H w) (h : w.1 a = some (.inl (kd, x))) (h9 : kd ≠ 9) : ∃ (ws : va_W) (k : Nat), va_P Y.1 vwCl ws H ∧ va_D (fun q => z0 ≤ q) ws ∧ ws[k]? = some (a, .inl (Y.2 kd, x)) := by
  obtain ⟨-, ws, hP, hD, hA⟩ := hw
  rcases hA a _ h with ⟨k, hk⟩ | ⟨L, xs, he, -⟩
  · exact ⟨ws, k, hP, hD, hk⟩
  · simp only [Sum.inl.injEq, Prod.mk.injEq] at he
    exact absurd he.1 h9
theorem zw.script {Y : zY} {z0 : Nat} {s : State} {H : Heap} {w : zW} {a : Nat} {N : Nat} {f : Nat → Int32} (hw : zw Y z0 s H w) (h : w.1 a = some (.inl (9, N, .inl f))) : (∃ (ws : va_W) (k : Nat), va_P Y.1 vwCl ws H ∧ ws[k]? = some (a, .inl (Y.2 9, N, .inl f))) ∨ va_X a N f s H := by
  obtain ⟨-, ws, hP, hD, hA⟩ := hw
  rcases hA a _ h with ⟨k, hk⟩ | ⟨L, xs, he, -, hX⟩
  · exact Or.inl ⟨ws, k, hP, hk⟩
  · simp only [Sum.inl.injEq, Prod.mk.injEq, true_and] at he
    obtain ⟨rfl, rfl⟩ := he
    exact Or.inr hX
/-- one cell is written -/
theorem zw.put {Y : zY} {z0 : Nat} {s : State} {H H1 : Heap} {w : zW} {a : Nat} {e0 e : va_E} (hw : zw Y z0 s H w) (h : w.1 a = some e0) (h9 : ∀ x, e0 ≠ .inl (9, x)) (hat : va_at Y.1 vwCl (a, zc Y e) H1) (z : H1.size = H.size) (oq : ∀ q : Nat, q ≠ a → H1[q]? = H[q]?) : zw Y z0 s H1 (va_up w.1 a (some e), w.2) ∧ z0 ≤ a := by
  obtain ⟨hn, ws, hP, hD, hA⟩ := hw
  have h0 : ∃ k : Nat, ws[k]? = some (a, zc Y e0) := by
    rcases hA a _ h with h1 | ⟨L, xs, he, -⟩
    · exact h1
    · exact absurd he (h9 _)
  obtain ⟨q0, hq⟩ := h0
  refine ⟨⟨z.trans hn, ws.set q0 (a, zc Y e), hP.set hD hq hat oq, hD.set hq, ?_⟩, hD.2 q0 _ hq⟩
  intro b e' hb
  by_cases hba : b = a
  · subst hba
    simp only [va_up, if_true, Option.some.injEq] at hb
    subst hb
    refine Or.inl ⟨q0, ?_⟩
    rw [List.getElem?_set_self (List.getElem?_eq_some_iff.mp hq).1]
  · simp only [va_up, if_neg hba] at hb
    rcases hA b _ hb with ⟨k, hk⟩ | ⟨L, xs, he, hlt, hX⟩
    · refine Or.inl ⟨k, ?_⟩
      have hne : q0 ≠ k := by
        intro hqk
        subst hqk
        rw [hq] at hk
        simp only [Option.some.injEq, Prod.mk.injEq] at hk
        exact hba hk.1.symm
      rw [List.getElem?_set_ne hne]
      exact hk
    · exact Or.inr ⟨L, xs, he, hlt, hX.kept (oq b hba)⟩
theorem ztys_at {Y : zY} : (ztys Y)[0]? = some (Y.2 0, .int) ∧ (ztys Y)[1]? = some (Y.2 1, .long) ∧ (ztys Y)[2]? = some (Y.2 2, .boolean) ∧ (ztys Y)[3]? = some (Y.2 3, .object RX2) ∧ (ztys Y)[4]? = some (Y.2 4, .object RX5) := ⟨rfl, rfl, rfl, rfl, rfl⟩
section ZHR
variable {p : Program} {l : Launch} {e : Env} {R : Room} {s : State} {m : MethodId} {args : Array Value} {below : List Frame} {meth : Method} {c : Code} {H : Heap} {locs : List Loc} {cells slots : Nat} {Q : State → Prop}
variable {cc : ByteArray} {pc len : Nat} {ls : Array Slot} {st st' : List Value} {pc' : Nat} {Y : zY} {z0 : Nat} {w w' : zW}
theorem zHget_ok {o idx : Nat} (hx : p.tables.exec = Jvm.exec) (hb : c.code = cc) (hts : ∀ w ∈ zT, w.before args s = true) (hown : s.vm.findClass (zOwn o) = some m.cls) (hK : va_K Y.1 vwCl (ztys Y) s) (hz : zHget o idx len pc st w = some (pc', st', w')) (hd : decode cc pc = .ok (.getfield idx, len)) (hw : zw Y z0 s H w) (kk : w' = w → W p l e R s m args below meth c H locs cells slots Q (F0 m pc' ls st')) : W p l e R s m args below meth c H locs cells slots Q (F0 m pc ls st) := by
  unfold zHget at hz
  split at hz
  · rename_i a r
    split at hz
    · rename_i ci fs k cs ha hf
      split at hz
      · rename_i hc
        obtain ⟨rfl, hc⟩ := hc
        split at hz
        · rename_i v hv
          simp only [Option.some.injEq, Prod.mk.injEq] at hz
          obtain ⟨rfl, rfl, rfl⟩ := hz
          obtain ⟨ref, C, T, N, h1, h2, h3, h4⟩ := zfl_inv hf hc
          obtain ⟨ws, q, hP, -, hq⟩ := hw.obj ha
          exact va_get (D := Y.1) (ci := ci) (C := C) (T := T) (N := N) hx hb hts (zlays_in h1) hown hK hP q hq h1 k h2 (hts _ h3) (zsame hts h4) hv hd (kk rfl)
        · cases hz
      · cases hz
    · cases hz
  · cases hz
theorem zHia_ok (hx : p.tables.exec = Jvm.exec) (hb : c.code = cc) (hK : va_K Y.1 vwCl (ztys Y) s) (hz : zHia len pc st w = some (pc', st', w')) (hd : decode cc pc = .ok (.iaload, len)) (hw : zw Y z0 s H w) (kk : w' = w → W p l e R s m args below meth c H locs cells slots Q (F0 m pc' ls st')) (hno9 : Y.2 9 = Y.2 0) : W p l e R s m args below meth c H locs cells slots Q (F0 m pc ls st) := by
  unfold zHia at hz
  split at hz
  · rename_i i a r
    split at hz
    · rename_i kd N f ha
      split at hz
      · rename_i hc
        obtain ⟨rfl, hkd, hin⟩ := hc
        simp only [Option.some.injEq, Prod.mk.injEq] at hz
        obtain ⟨rfl, rfl, rfl⟩ := hz
        rcases hkd with rfl | rfl
        · obtain ⟨ws, q, hP, -, hq⟩ := hw.arr ha (by decide)
          exact va_iald hx hb hK hP q 0 hq rfl (zbd_inv hin) hd (kk rfl)
        · rcases hw.script ha with ⟨ws, q, hP, hq⟩ | ⟨scr, h1, h2, h3, h4, h5⟩
          · rw [hno9] at hq
            exact va_iald hx hb hK hP q 0 hq rfl (zbd_inv hin) hd (kk rfl)
          · have hin := zbd_inv hin
            have hlt : i.toNatClampNeg < N := Nat.not_le.mp fun q => hin (Or.inr q)
            exact W.iald (v := .int (f i.toNatClampNeg)) hx hb h1 h2 h3 (by rw [h4]; exact hin) (h5 _ hlt) rfl rfl hd (kk rfl)
      · cases hz
    · cases hz
  · cases hz
theorem zHba_ok (hx : p.tables.exec = Jvm.exec) (hb : c.code = cc) (hK : va_K Y.1 vwCl (ztys Y) s) (hz : zHba len pc st w = some (pc', st', w')) (hd : decode cc pc = .ok (.baload, len)) (hw : zw Y z0 s H w) (kk : w' = w → W p l e R s m args below meth c H locs cells slots Q (F0 m pc' ls st')) : W p l e R s m args below meth c H locs cells slots Q (F0 m pc ls st) := by
  unfold zHba at hz
  split at hz
  · rename_i i a r
    split at hz
    · rename_i kd N f ha
      split at hz
      · rename_i hc
        obtain ⟨rfl, rfl, hin⟩ := hc
        simp only [Option.some.injEq, Prod.mk.injEq] at hz
        obtain ⟨rfl, rfl, rfl⟩ := hz
        obtain ⟨ws, q, hP, -, hq⟩ := hw.arr ha (by decide)
        exact va_zald hx hb hK hP q 2 hq rfl (zbd_inv hin) hd (kk rfl)
      · cases hz
    · cases hz
  · cases hz
theorem zHla_ok (hx : p.tables.exec = Jvm.exec) (hb : c.code = cc) (hK : va_K Y.1 vwCl (ztys Y) s) (hz : zHla len pc st w = some (pc', st', w')) (hd : decode cc pc = .ok (.laload, len)) (hw : zw Y z0 s H w) (kk : w' = w → W p l e R s m args below meth c H locs cells slots Q (F0 m pc' ls st')) : W p l e R s m args below meth c H locs cells slots Q (F0 m pc ls st) := by
  unfold zHla at hz
  split at hz
  · rename_i i a r
    split at hz
    · rename_i kd N f ha
      split at hz
      · rename_i hc
        obtain ⟨rfl, rfl, hin⟩ := hc
        simp only [Option.some.injEq, Prod.mk.injEq] at hz
        obtain ⟨rfl, rfl, rfl⟩ := hz
        obtain ⟨ws, q, hP, -, hq⟩ := hw.arr ha (by decide)
        exact va_lald hx hb hK hP q 1 hq rfl (zbd_inv hin) hd (kk rfl)
      · cases hz
    · cases hz
  · cases hz
theorem zHaa_ok (hx : p.tables.exec = Jvm.exec) (hb : c.code = cc) (hK : va_K Y.1 vwCl (ztys Y) s) (hz : zHaa len pc st w = some (pc', st', w')) (hd : decode cc pc = .ok (.aaload, len)) (hw : zw Y z0 s H w) (kk : w' = w → W p l e R s m args below meth c H locs cells slots Q (F0 m pc' ls st')) : W p l e R s m args below meth c H locs cells slots Q (F0 m pc ls st) := by
  unfold zHaa at hz
  split at hz
  · rename_i i a r
    split at hz
    · rename_i kd N f ha
      split at hz
      · rename_i hc
        obtain ⟨rfl, hkd, hin⟩ := hc
        simp only [Option.some.injEq, Prod.mk.injEq] at hz
        obtain ⟨rfl, rfl, rfl⟩ := hz
        rcases hkd with rfl | rfl
        · obtain ⟨ws, q, hP, -, hq⟩ := hw.arr ha (by decide)
          exact va_aldq hx hb hK hP q 3 hq rfl (zbd_inv hin) hd (kk rfl)
        · obtain ⟨ws, q, hP, -, hq⟩ := hw.arr ha (by decide)
          exact va_aldq hx hb hK hP q 4 hq rfl (zbd_inv hin) hd (kk rfl)
      · cases hz
    · cases hz
  · cases hz
theorem zHal_ok (hx : p.tables.exec = Jvm.exec) (hb : c.code = cc) (hK : va_K Y.1 vwCl (ztys Y) s) (hz : zHal len pc st w = some (pc', st', w')) (hd : decode cc pc = .ok (.arraylength, len)) (hw : zw Y z0 s H w) (kk : w' = w → W p l e R s m args below meth c H locs cells slots Q (F0 m pc' ls st')) (hno9 : Y.2 9 = Y.2 0) : W p l e R s m args below meth c H locs cells slots Q (F0 m pc ls st) := by
  unfold zHal at hz
  split at hz
  · rename_i a r
    split at hz
    · rename_i kd N f ha
      split at hz
      · rename_i hc
        obtain ⟨rfl, hkd⟩ := hc
        simp only [Option.some.injEq, Prod.mk.injEq] at hz
        obtain ⟨rfl, rfl, rfl⟩ := hz
        rcases hkd with rfl | rfl | rfl | rfl | rfl | rfl
        · obtain ⟨ws, q, hP, -, hq⟩ := hw.arr ha (by decide)
          exact va_alen hx hb hK hP q 0 hq rfl rfl hd (kk rfl)
        · obtain ⟨ws, q, hP, -, hq⟩ := hw.arr ha (by decide)
          exact va_alen hx hb hK hP q 1 hq rfl rfl hd (kk rfl)
        · obtain ⟨ws, q, hP, -, hq⟩ := hw.arr ha (by decide)
          exact va_alen hx hb hK hP q 2 hq rfl rfl hd (kk rfl)
        · obtain ⟨ws, q, hP, -, hq⟩ := hw.arr ha (by decide)
          exact va_alen hx hb hK hP q 3 hq rfl rfl hd (kk rfl)
        · obtain ⟨ws, q, hP, -, hq⟩ := hw.arr ha (by decide)
          exact va_alen hx hb hK hP q 4 hq rfl rfl hd (kk rfl)
        · obtain ⟨-, ws, hP, hD, hA⟩ := hw
          rcases hA a _ ha with ⟨q, hq⟩ | ⟨L, xs, he, -, scr, h1, h2, h3, h4, h5⟩
          · have hq : ws[q]? = some (a, .inl (Y.2 0, N, f)) := by rw [← hno9]; exact hq
            exact va_alen hx hb hK hP q 0 hq rfl rfl hd (kk rfl)
          · simp only [Sum.inl.injEq, Prod.mk.injEq, true_and] at he
            obtain ⟨rfl, -⟩ := he
            exact W.alen (n := Int32.ofNat N) hx hb h1 h2 (by rw [h4] <;> rfl) rfl rfl hd (kk rfl)
      · cases hz
    · cases hz
  · cases hz
theorem zHis_ok (hx : p.tables.exec = Jvm.exec) (hb : c.code = cc) (hK : va_K Y.1 vwCl (ztys Y) s) (hz : zHis len pc st w = some (pc', st', w')) (hd : decode cc pc = .ok (.iastore, len)) (hw : zw Y z0 s H w) (hS : va_S (fun q => z0 ≤ q) s.heap H locs) (kk : ∀ (H1 : Heap) (locs1 : List Loc), zw Y z0 s H1 w' → va_S (fun q => z0 ≤ q) s.heap H1 locs1 → w'.2 = w.2 → W p l e R s m args below meth c H1 locs1 cells slots Q (F0 m pc' ls st')) : W p l e R s m args below meth c H locs cells slots Q (F0 m pc ls st) := by
  unfold zHis at hz
  split at hz
  · rename_i x i a r
    split at hz
    · rename_i kd N f ha
      split at hz
      · rename_i hc
        obtain ⟨rfl, rfl, hin⟩ := hc
        simp only [Option.some.injEq, Prod.mk.injEq] at hz
        obtain ⟨rfl, rfl, rfl⟩ := hz
        have hin := zbd_inv hin
        obtain ⟨ws, q, hP, -, hq⟩ := hw.arr ha (by decide)
        refine W.iast hx hb (hP q _ hq) ((hK.2 0 _ rfl).1 N (fun j => .int (f j))) (fun q => by cases q) (by show ¬ (i < 0 ∨ (arrV _ _ _).slots.size ≤ _); rw [arrV_size]; exact hin) rfl rfl hd fun H1 e1 z1 oq => ?_
        obtain ⟨hw1, h0⟩ := hw.put (e := .inl (0, N, .inl (upd f i.toNatClampNeg x))) ha (fun y => by simp) (by
          show H1[a]? = some (vp_cell _ _)
          rw [e1]
          rw [vp_cell_i, vp_cell_i, arrV_store]
          congr 2
          funext j
          by_cases hj : j = i.toNatClampNeg
          · subst hj
            simp [updV, upd]
          · simp [updV, upd, hj]) z1 oq
        exact kk H1 _ hw1 (hS.put z1 oq h0) rfl
      · cases hz
    · cases hz
  · cases hz
theorem zHbs_ok (hx : p.tables.exec = Jvm.exec) (hb : c.code = cc) (hK : va_K Y.1 vwCl (ztys Y) s) (hz : zHbs len pc st w = some (pc', st', w')) (hd : decode cc pc = .ok (.bastore, len)) (hw : zw Y z0 s H w) (hS : va_S (fun q => z0 ≤ q) s.heap H locs) (kk : ∀ (H1 : Heap) (locs1 : List Loc), zw Y z0 s H1 w' → va_S (fun q => z0 ≤ q) s.heap H1 locs1 → w'.2 = w.2 → W p l e R s m args below meth c H1 locs1 cells slots Q (F0 m pc' ls st')) : W p l e R s m args below meth c H locs cells slots Q (F0 m pc ls st) := by
  unfold zHbs at hz
  split at hz
  · rename_i x i a r
    split at hz
    · rename_i kd N f ha
      split at hz
      · rename_i hc
        obtain ⟨rfl, rfl, hin⟩ := hc
        simp only [Option.some.injEq, Prod.mk.injEq] at hz
        obtain ⟨rfl, rfl, rfl⟩ := hz
        have hin := zbd_inv hin
        obtain ⟨ws, q, hP, -, hq⟩ := hw.arr ha (by decide)
        refine W.zast hx hb (hP q _ hq) ((hK.2 2 _ rfl).1 N (fun j => .int (f j))) (fun q => by cases q) (by show ¬ (i < 0 ∨ (arrV _ _ _).slots.size ≤ _); rw [arrV_size]; exact hin) rfl rfl hd fun H1 e1 z1 oq => ?_
        obtain ⟨hw1, h0⟩ := hw.put (e := .inl (2, N, .inl (upd f i.toNatClampNeg (vp_nar .boolean x)))) ha (fun y => by simp) (by
          show H1[a]? = some (vp_cell _ _)
          rw [e1]
          rw [vp_cell_i, vp_cell_i, arrV_store]
          congr 2
          funext j
          by_cases hj : j = i.toNatClampNeg
          · subst hj
            simp [updV, upd, vp_nar]
            try rfl
          · simp [updV, upd, hj]) z1 oq
        exact kk H1 _ hw1 (hS.put z1 oq h0) rfl
      · cases hz
    · cases hz
  · cases hz
theorem zHls_ok (hx : p.tables.exec = Jvm.exec) (hb : c.code = cc) (hK : va_K Y.1 vwCl (ztys Y) s) (hz : zHls len pc st w = some (pc', st', w')) (hd : decode cc pc = .ok (.lastore, len)) (hw : zw Y z0 s H w) (hS : va_S (fun q => z0 ≤ q) s.heap H locs) (kk : ∀ (H1 : Heap) (locs1 : List Loc), zw Y z0 s H1 w' → va_S (fun q => z0 ≤ q) s.heap H1 locs1 → w'.2 = w.2 → W p l e R s m args below meth c H1 locs1 cells slots Q (F0 m pc' ls st')) : W p l e R s m args below meth c H locs cells slots Q (F0 m pc ls st) := by
  unfold zHls at hz
  split at hz
  · rename_i x i a r
    split at hz
    · rename_i kd N f ha
      split at hz
      · rename_i hc
        obtain ⟨rfl, rfl, hin⟩ := hc
        simp only [Option.some.injEq, Prod.mk.injEq] at hz
        obtain ⟨rfl, rfl, rfl⟩ := hz
        have hin := zbd_inv hin
        obtain ⟨ws, q, hP, -, hq⟩ := hw.arr ha (by decide)
        refine W.last hx hb (hP q _ hq) ((hK.2 1 _ rfl).1 N (fun j => .long (f j))) (fun q => by cases q) (by show ¬ (i < 0 ∨ (arrV _ _ _).slots.size ≤ _); rw [arrV_size]; exact hin) rfl rfl hd fun H1 e1 z1 oq => ?_
        obtain ⟨hw1, h0⟩ := hw.put (e := .inl (1, N, .inr (.inl (vp_updL f i.toNatClampNeg x)))) ha (fun y => by simp) (by
          show H1[a]? = some (vp_cell _ _)
          rw [e1]
          rw [vp_cell_l, vp_cell_l, arrV_store]
          congr 2
          funext j
          by_cases hj : j = i.toNatClampNeg
          · subst hj
            simp [updV, vp_updL]
          · simp [updV, vp_updL, hj]) z1 oq
        exact kk H1 _ hw1 (hS.put z1 oq h0) rfl
      · cases hz
    · cases hz
  · cases hz
end ZHR
end
section
/-! fields written, cells made, casts, constants -/
def ztyp (ci k : Nat) : FieldType := match ci with
  | 0 => tyX0 k
  | 1 => tyX1 k
  | 2 => tyX3 k
  | 3 => tyX5 k
  | 4 => tyX6 k
  | _ => tyX7 k
def ztab (ci : Nat) : String × u_T × Nat := match ci with
  | 0 => (RX0, TX0, 8)
  | 1 => (RX1, TX1, 7)
  | 2 => (RX3, TX3, 11)
  | 3 => (RX5, TX5, 3)
  | 4 => (RX6, TX6, 3)
  | _ => (RX7, TX7, 24)
theorem ztab_ok {ci : Nat} {q : vw_C} (h : vwCl[ci]? = some q) : ci < 6 ∧ q = ztab ci := by
  have hlt : ci < 6 := (List.getElem?_eq_some_iff.mp h).1
  refine ⟨hlt, ?_⟩
  match ci, hlt, h with
  | 0, _, h => exact (Option.some.inj h).symm
  | 1, _, h => exact (Option.some.inj h).symm
  | 2, _, h => exact (Option.some.inj h).symm
  | 3, _, h => exact (Option.some.inj h).symm
  | 4, _, h => exact (Option.some.inj h).symm
  | 5, _, h => exact (Option.some.inj h).symm
theorem ztab_in {ci : Nat} (h : ci < 6) : vwCl[ci]? = some (ztab ci) := by
  match ci, h with
  | 0, _ => rfl
  | 1, _ => rfl
  | 2, _ => rfl
  | 3, _ => rfl
  | 4, _ => rfl
  | 5, _ => rfl
theorem ztyp_ok {ci : Nat} (h : ci < 6) : ∀ k, k < (ztab ci).2.2 → parseFieldDescriptor ((ztab ci).2.1 k).2.2.1 = some (ztyp ci k) := by
  match ci, h with
  | 0, _ => exact tyX0_ok
  | 1, _ => exact tyX1_ok
  | 2, _ => exact tyX3_ok
  | 3, _ => exact tyX5_ok
  | 4, _ => exact tyX6_ok
  | 5, _ => exact tyX7_ok
theorem znm_ok {ci : Nat} (h : ci < 6) : ∀ a, a < (ztab ci).2.2 → ∀ b, b < (ztab ci).2.2 → a ≠ b → ((ztab ci).2.1 a).2.1 ≠ ((ztab ci).2.1 b).2.1 := by
  match ci, h with
  | 0, _ => exact nmX0
  | 1, _ => exact nmX1
  | 2, _ => exact nmX3
  | 3, _ => exact nmX5
  | 4, _ => exact nmX6
  | 5, _ => exact nmX7
def zokv (ty : FieldType) (v : Value) : Bool := match ty, v with
  | .int, .int _ => true
  | .long, .long _ => true
  | .object _, .ref _ => true
  | .object _, .null => true
  | .array _, .ref _ => true
  | .array _, .null => true
  | _, _ => false
theorem zokv_ok {ty : FieldType} {v : Value} (h : zokv ty v = true) : narrow ty v = v ∧ fits ty v = true := by
  unfold zokv at h
  split at h <;> first | exact ⟨rfl, rfl⟩ | cases h
def zfin (o ci k : Nat) (ini : Bool) : Bool := !((ztab ci).2.1 k).2.2.2 || (ini && decide (((ztab ci).2.1 k).1 = zOwn o))
def zHput (o : Nat) (ini : Bool) (idx len pc : Nat) (st : List Value) (w : zW) : Option zG := match st with
  | v :: .ref a :: r => match w.1 a, zfl o idx with
    | some (.inr (ci, fs)), some (k, cs) => if len = 3 ∧ ci ∈ cs ∧ k < fs.length ∧ zokv (ztyp ci k) v = true ∧ zfin o ci k ini = true then some (pc + 3, r, (va_up w.1 a (some (.inr (ci, fs.set k v))), w.2)) else none
    | _, _ => none
  | _ => none
/-- classes by number, as a class names them -/
def zCk : List (Nat × Nat × Nat) := [(8, 7, 4), (8, 10, 5), (3, 9, 3), (6, 128, 2), (6, 156, 0), (6, 9, 1)]
def zck (o idx : Nat) : Option Nat := (zCk.find? (fun e => e.1 == o && e.2.1 == idx)).map (fun e => e.2.2)
def zCkB (e : Nat × Nat × Nat) : Bool := decide (e.2.2 < 6) && decide (Cond.classLink (zOwn e.1) e.2.1 (ztab e.2.2).1 ∈ zT) && decide (Cond.instantiable (ztab e.2.2).1 (ztab e.2.2).2.2 ∈ zT) && decide (Cond.initialized (ztab e.2.2).1 ∈ zT)
theorem zCk_ok : zCk.all zCkB = true := by decide +kernel
theorem zck_inv {o idx ci : Nat} (h : zck o idx = some ci) : ci < 6 ∧ Cond.classLink (zOwn o) idx (ztab ci).1 ∈ zT ∧ Cond.instantiable (ztab ci).1 (ztab ci).2.2 ∈ zT ∧ Cond.initialized (ztab ci).1 ∈ zT := by
  unfold zck at h
  cases hf : zCk.find? (fun e => e.1 == o && e.2.1 == idx) with
  | none => rw [hf] at h; cases h
  | some e =>
    rw [hf] at h
    simp only [Option.map_some, Option.some.injEq] at h
    have hm := List.mem_of_find?_eq_some hf
    have hp := List.find?_some hf
    simp only [Bool.and_eq_true, beq_iff_eq] at hp
    have h1 := List.all_eq_true.mp zCk_ok e hm
    obtain ⟨o', i', c'⟩ := e
    dsimp only at h hp h1
    obtain ⟨rfl, rfl⟩ := hp
    subst h
    unfold zCkB at h1
    simp only [Bool.and_eq_true, decide_eq_true_eq] at h1
    exact ⟨h1.1.1.1, h1.1.1.2, h1.1.2, h1.2⟩
def zdf (ci : Nat) : List Value := match ci with
  | 0 => [.null, .null, .null, .null, .null, .int 0, .null, .null]
  | 1 => [.null, .null, .null, .null, .int 0, .int 0, .int 0]
  | 2 => [.null, .null, .null, .null, .null, .int 0, .int 0, .null, .null, .null, .null]
  | 3 => [.int 0, .null, .null]
  | 4 => [.null, .null, .null]
  | _ => [.int 0, .null, .int 0, .null, .null, .null, .null, .null, .null, .int 0, .int 0, .null, .null, .long 0, .null, .null, .int 0, .null, .int 0, .null, .null, .null, .null, .null]
theorem zdf_ok {ci : Nat} (h : ci < 6) : ∀ j, j < (ztab ci).2.2 → defaultValue (ztyp ci j) = vp_V (zdf ci) j := by
  match ci, h with
  | 0, _ => decide +kernel
  | 1, _ => decide +kernel
  | 2, _ => decide +kernel
  | 3, _ => decide +kernel
  | 4, _ => decide +kernel
  | 5, _ => decide +kernel
def zHnew (o idx len pc : Nat) (st : List Value) (w : zW) : Option zG := match zck o idx with
  | some ci => if len = 3 then some (pc + 3, .ref w.2.1 :: st, (va_up w.1 w.2.1 (some (.inr (ci, zdf ci))), w.2.1 + 1, w.2.2 + (ztab ci).2.2)) else none
  | none => none
def zHna (t : ArrayType) (len pc : Nat) (st : List Value) (w : zW) : Option zG := match st with
  | .int n :: r => if len = 2 ∧ ¬ n < 0 ∧ n.toNatClampNeg ≤ 67108864 then (match t with
    | .int => some (pc + 2, .ref w.2.1 :: r, (va_up w.1 w.2.1 (some (.inl (0, n.toNatClampNeg, .inl (fun _ => 0)))), w.2.1 + 1, w.2.2 + n.toNatClampNeg))
    | .long => some (pc + 2, .ref w.2.1 :: r, (va_up w.1 w.2.1 (some (.inl (1, n.toNatClampNeg, .inr (.inl (fun _ => 0))))), w.2.1 + 1, w.2.2 + n.toNatClampNeg))
    | .boolean => some (pc + 2, .ref w.2.1 :: r, (va_up w.1 w.2.1 (some (.inl (2, n.toNatClampNeg, .inl (fun _ => 0)))), w.2.1 + 1, w.2.2 + n.toNatClampNeg))
    | _ => none) else none
  | _ => none
def zan (o idx : Nat) : Option Nat := if o = 6 ∧ idx = 16 then some 3 else if o = 3 ∧ idx = 9 then some 4 else none
def zHnq (o idx len pc : Nat) (st : List Value) (w : zW) : Option zG := match st with
  | .int n :: r => match zan o idx with
    | some kd => if len = 3 ∧ ¬ n < 0 ∧ n.toNatClampNeg ≤ 67108864 then some (pc + 3, .ref w.2.1 :: r, (va_up w.1 w.2.1 (some (.inl (kd, n.toNatClampNeg, .inr (.inr (.inr (.inr (fun _ => none))))))), w.2.1 + 1, w.2.2 + n.toNatClampNeg)) else none
    | none => none
  | _ => none
def zHas (len pc : Nat) (st : List Value) (w : zW) : Option zG := match st with
  | .ref v :: .int i :: .ref a :: r => match w.1 a, w.1 v with
    | some (.inl (kd, N, .inr (.inr (.inr (.inr f))))), some (.inr (ci, _)) => if len = 1 ∧ ((kd = 3 ∧ (ci = 0 ∨ ci = 2)) ∨ (kd = 4 ∧ ci = 3)) ∧ zbd i N = true then some (pc + 1, r, (va_up w.1 a (some (.inl (kd, N, .inr (.inr (.inr (.inr (va_up f i.toNatClampNeg (some v)))))))), w.2)) else none
    | _, _ => none
  | _ => none
def zHin (o idx len pc : Nat) (st : List Value) (w : zW) : Option zG := match st with
  | .null :: r => if len = 3 then some (pc + 3, .int 0 :: r, w) else none
  | .ref a :: r => match w.1 a with
    | some (.inr (ci, _)) => if len = 3 ∧ o = 6 ∧ idx = 128 ∧ (ci = 0 ∨ ci = 2) then some (pc + 3, .int (if ci = 2 then 1 else 0) :: r, w) else none
    | _ => none
  | _ => none
def zHcc (o idx len pc : Nat) (st : List Value) (w : zW) : Option zG := match st with
  | .ref a :: r => match w.1 a with
    | some (.inr (ci, _)) => if len = 3 ∧ o = 6 ∧ idx = 128 ∧ ci = 2 then some (pc + 3, .ref a :: r, w) else none
    | _ => none
  | _ => none
/-- constants -/
def zLk : List (Nat × Nat × Int64) := [(4, 9, 2305843009213693951), (4, 11, 1152921504606846975), (4, 13, 2147483647), (4, 15, 2), (4, 17, 1073741823), (7, 94, 2), (7, 115, 2147483647), (7, 121, 2147483629), (7, 218, 4611685975477714963), (7, 227, -1)]
def zlk (o idx : Nat) : Option Int64 := (zLk.find? (fun e => e.1 == o && e.2.1 == idx)).map (fun e => e.2.2)
theorem zLk_ok : zLk.all (fun e => decide (Cond.constantLong (zOwn e.1) e.2.1 e.2.2 ∈ zT)) = true := by decide +kernel
def zIk : List (Nat × Nat × Int32) := [(9, 265, 1431655765), (9, 266, 858993459), (9, 267, 252645135)]
def zik (o idx : Nat) : Option Int32 := (zIk.find? (fun e => e.1 == o && e.2.1 == idx)).map (fun e => e.2.2)
theorem zIk_ok : zIk.all (fun e => decide (Cond.constant (zOwn e.1) e.2.1 e.2.2 ∈ zT)) = true := by decide +kernel
theorem zlk_inv {o idx : Nat} {v : Int64} (h : zlk o idx = some v) : Cond.constantLong (zOwn o) idx v ∈ zT := by
  unfold zlk at h
  cases hf : zLk.find? (fun e => e.1 == o && e.2.1 == idx) with
  | none => rw [hf] at h; cases h
  | some e =>
    rw [hf] at h
    simp only [Option.map_some, Option.some.injEq] at h
    have hp := List.find?_some hf
    simp only [Bool.and_eq_true, beq_iff_eq] at hp
    have h1 := List.all_eq_true.mp zLk_ok e (List.mem_of_find?_eq_some hf)
    rw [← hp.1, ← hp.2, ← h]
    exact of_decide_eq_true h1
theorem zik_inv {o idx : Nat} {v : Int32} (h : zik o idx = some v) : Cond.constant (zOwn o) idx v ∈ zT := by
  unfold zik at h
  cases hf : zIk.find? (fun e => e.1 == o && e.2.1 == idx) with
  | none => rw [hf] at h; cases h
  | some e =>
    rw [hf] at h
    simp only [Option.map_some, Option.some.injEq] at h
    have hp := List.find?_some hf
    simp only [Bool.and_eq_true, beq_iff_eq] at hp
    have h1 := List.all_eq_true.mp zIk_ok e (List.mem_of_find?_eq_some hf)
    rw [← hp.1, ← hp.2, ← h]
    exact of_decide_eq_true h1
/-- what the tables say beyond the words that go with every call -/
def zDecl : List MethodName := [⟨RX2, "prepare", "()V"⟩, ⟨RX2, "raises", "(III)Z"⟩, ⟨RX2, "link", "(I)V"⟩, ⟨RX2, "lacking", "()I"⟩]
def zK (Y : zY) (U : State) : Prop := va_K Y.1 vwCl (ztys Y) U ∧ Y.2 9 = Y.2 0 ∧ va_AO RX2 U ∧ va_AO RX5 U ∧ va_Nw (.castable RX0 RX2) U ∧ va_Nw (.castable RX3 RX2) U ∧ va_Nw (.castable RX3 RX3) U ∧ va_Nc RX0 RX3 U ∧ (∀ x ∈ zDecl, va_Nw (.declares x) U) ∧ va_Nw (.methodLinkNest RX6 11 yX1_init RX6) U
/-- a cell is made -/
theorem zw.new {Y : zY} {z0 : Nat} {s : State} {H H1 : Heap} {w : zW} {e : va_E} (hw : zw Y z0 s H w) (h0 : z0 ≤ H.size) (hat : va_at Y.1 vwCl (H.size, zc Y e) H1) (z : H1.size = H.size + 1) (oq : ∀ q : Nat, q < H.size → H1[q]? = H[q]?) (k : Nat) : zw Y z0 s H1 (va_up w.1 w.2.1 (some e), w.2.1 + 1, k) := by
  obtain ⟨hn, ws, hP, hD, hA⟩ := hw
  have hk : ∀ (k : Nat) (x : Nat × va_E), ws[k]? = some x → H1[x.1]? = H[x.1]? := fun k x hx => oq x.1 ((hP k x hx).lt)
  refine ⟨by rw [z, hn], ws ++ [(H.size, zc Y e)], (hP.kept hk).app (fun k x hx => ?_), hD.push hP rfl h0, ?_⟩
  · have hz : k < 1 := (List.getElem?_eq_some_iff.mp hx).1
    rw [show k = 0 by omega] at hx
    cases hx
    exact hat
  · intro b e' hb
    by_cases hba : b = w.2.1
    · subst hba
      simp only [va_up, if_true, Option.some.injEq] at hb
      subst hb
      refine Or.inl ⟨ws.length, ?_⟩
      rw [List.getElem?_append_right (Nat.le_refl _), Nat.sub_self, ← hn]
      rfl
    · simp only [va_up, if_neg hba] at hb
      rcases hA b _ hb with ⟨j, hj⟩ | ⟨L, xs, he, hlt, hX⟩
      · refine Or.inl ⟨j, ?_⟩
        rw [List.getElem?_append_left (List.getElem?_eq_some_iff.mp hj).1]
        exact hj
      · exact Or.inr ⟨L, xs, he, hlt, hX.kept (oq b (by omega))⟩
section ZHW
variable {p : Program} {l : Launch} {e : Env} {R : Room} {s : State} {m : MethodId} {args : Array Value} {below : List Frame} {meth : Method} {c : Code} {H : Heap} {locs : List Loc} {cells slots : Nat} {Q : State → Prop}
variable {cc : ByteArray} {pc len : Nat} {ls : Array Slot} {st st' : List Value} {pc' : Nat} {Y : zY} {z0 : Nat} {w w' : zW}
theorem zHput_ok {o idx : Nat} {ini : Bool} (hx : p.tables.exec = Jvm.exec) (hb : c.code = cc) (hts : ∀ w ∈ zT, w.before args s = true) (hown : s.vm.findClass (zOwn o) = some m.cls) (hini : ini = true → meth.name = "<init>") (hK : va_K Y.1 vwCl (ztys Y) s) (hz : zHput o ini idx len pc st w = some (pc', st', w')) (hd : decode cc pc = .ok (.putfield idx, len)) (hw : zw Y z0 s H w) (hS : va_S (fun q => z0 ≤ q) s.heap H locs) (kk : ∀ (H1 : Heap) (locs1 : List Loc), zw Y z0 s H1 w' → va_S (fun q => z0 ≤ q) s.heap H1 locs1 → w'.2 = w.2 → W p l e R s m args below meth c H1 locs1 cells slots Q (F0 m pc' ls st')) : W p l e R s m args below meth c H locs cells slots Q (F0 m pc ls st) := by
  unfold zHput at hz
  split at hz
  · rename_i v a r
    split at hz
    · rename_i ci fs k cs ha hf
      split at hz
      · rename_i hc
        obtain ⟨rfl, hc, hl, hv, hfi⟩ := hc
        simp only [Option.some.injEq, Prod.mk.injEq] at hz
        obtain ⟨rfl, rfl, rfl⟩ := hz
        obtain ⟨ref, C, T, N, h1, h2, h3, h4⟩ := zfl_inv hf hc
        obtain ⟨hci, hq0⟩ := ztab_ok h1
        have hty := ztyp_ok hci
        have hnm := znm_ok hci
        unfold zfin at hfi
        rw [← hq0] at hty hnm hfi
        dsimp only at hty hnm hfi
        obtain ⟨hn, hfit⟩ := zokv_ok hv
        obtain ⟨ws, q, hP, -, hq⟩ := hw.obj ha
        have hap := va_apart (own := zOwn o) hts (zlays_in h1) (ztyp ci) hty hnm hK h1
        obtain ⟨rr, g1, cell, q1, q2, q3, q4⟩ := hP q _ hq
        have hr : rr = (C, T, N) := Option.some.inj (g1.symm.trans h1)
        subst hr
        obtain ⟨hSl, hfc, kC, hkC, hkind⟩ := hK.1 ci _ h1
        obtain ⟨cf, kf, fi, f, hi, hsl⟩ := hSl k h2
        have hlay := hts _ (zlays_in h1 _ (u_in_lay h2))
        unfold u_lay at hlay
        have hst := (u_facts hfc hkC (u_lays hts (zlays_in h1) h2) hi).1
        have fin : ∀ H' : Heap, H'[a]? = some (cell.setSlot f.slot v) → H'.size = H.size → (∀ q, q ≠ a → H'[q]? = H[q]?) → W p l e R s m args below meth c H' (locs ++ [⟨a, f.slot⟩]) cells slots Q (F0 m (pc + 3) ls r) := by
          intro H' e1 e2 e3
          rw [hsl] at e1
          obtain ⟨hw1, h0⟩ := hw.put (e := .inr (ci, fs.set k v)) ha (fun y => by simp) (show va_at Y.1 vwCl (a, .inr (ci, fs.set k v)) H' from ⟨_, h1, t_OB.to (V := updV (vp_V fs) k v) ⟨_, e1, q2, q3, t_set q4 hap h2 v⟩ (fun j _ => vp_updV_set hl v j)⟩) e2 e3
          exact kk H' _ hw1 (hS.put e2 e3 h0) rfl
        by_cases hfin : (T k).2.2.2 = true
        · rw [hfin] at hfi
          simp only [Bool.not_true, Bool.false_or, Bool.and_eq_true, decide_eq_true_eq] at hfi
          rw [if_pos hfin] at hlay
          have hcf : m.cls = cf := by
            obtain ⟨_, _, c', _, _, _, -, -, hf', -, -, -, hown2, -⟩ := Cond.laysFinal_spec hlay
            have e1 : c' = cf := by have := hi.symm.trans hf'; simp at this; exact this.1.symm
            rw [hfi.2] at hown2
            rw [← e1]; exact Option.some.inj (hown.symm.trans hown2)
          have h6 := u_fits hfc hkC hkind (Or.inr hlay) hi (hty k h2) hn hfit
          exact W.putFinK hx hb hown (hts _ h3) (zsame hts h4 _ hi) hst hcf (hini hfi.1) (by rw [q2]; exact h6) q1 q3 (by rw [hsl]; exact k2_hasslot (q4 k h2)) rfl rfl hd fin
        · rw [if_neg hfin] at hlay
          have h6 := u_store hfc hkC hkind hlay hi (hty k h2) hn hfit
          exact W.putK hx hb (f := f) ⟨hown, hts _ h3, ⟨_, _, _, zsame hts h4 _ hi⟩, hst⟩ (by rw [q2]; exact h6) q1 q3 (by rw [hsl]; exact k2_hasslot (q4 k h2)) rfl rfl hd fin
      · cases hz
    · cases hz
  · cases hz
theorem zHnew_ok {o idx : Nat} (hx : p.tables.exec = Jvm.exec) (hb : c.code = cc) (hts : ∀ w ∈ zT, w.before args s = true) (hown : s.vm.findClass (zOwn o) = some m.cls) (hK : va_K Y.1 vwCl (ztys Y) s) (hz : zHnew o idx len pc st w = some (pc', st', w')) (hd : decode cc pc = .ok (.new idx, len)) (hw : zw Y z0 s H w) (h0 : z0 ≤ s.heap.size) (hS : va_S (fun q => z0 ≤ q) s.heap H locs) (hcells : cells + (w'.2.1 - w.2.1) ≤ R.cells) (hslots : slots + (w'.2.2 - w.2.2) ≤ R.slots) (kk : ∀ (H1 : Heap) (locs1 : List Loc), zw Y z0 s H1 w' → va_S (fun q => z0 ≤ q) s.heap H1 locs1 → W p l e R s m args below meth c H1 locs1 (cells + (w'.2.1 - w.2.1)) (slots + (w'.2.2 - w.2.2)) Q (F0 m pc' ls st')) : W p l e R s m args below meth c H locs cells slots Q (F0 m pc ls st) := by
  unfold zHnew at hz
  split at hz
  · rename_i ci hck
    split at hz
    · rename_i hl
      subst hl
      simp only [Option.some.injEq, Prod.mk.injEq] at hz
      obtain ⟨rfl, rfl, rfl⟩ := hz
      dsimp only at hcells hslots kk
      rw [Nat.add_sub_cancel_left] at hcells hslots kk
      rw [Nat.add_sub_cancel_left] at kk
      obtain ⟨hci, c1, c2, c3⟩ := zck_inv hck
      have hc := ztab_in hci
      have hKn := hK.1 ci _ hc
      refine W.newcK hx hb hown (hts _ c1) (hts _ c2) (hts _ c3) rfl hd hcells hslots hKn.2.1 rfl fun H1 kC hkC e1 z1 o1 => ?_
      have hw1 := hw.new (e := .inr (ci, zdf ci)) (Nat.le_trans h0 hS.1) (show va_at Y.1 vwCl (H.size, .inr (ci, zdf ci)) H1 from ⟨_, hc, (u_born (ztyp ci) hts (zlays_in hc) hKn hkC e1 (ztyp_ok hci)).to (zdf_ok hci)⟩) z1 o1 (w.2.2 + (ztab ci).2.2)
      have hS1 : va_S (fun q => z0 ≤ q) s.heap H1 locs := ⟨Nat.le_trans hS.1 (by omega), fun x h1 h2 => (o1 x (Nat.lt_of_lt_of_le h1 hS.1)).trans (hS.2.1 x h1 h2), hS.2.2⟩
      have hk := kk H1 locs hw1 hS1
      rw [← hw.1] at hk
      exact hk
    · cases hz
  · cases hz
theorem zRA {Y : zY} {k : Nat} {cA : ClassId} {ty : FieldType} (hK : va_K Y.1 vwCl (ztys Y) s) (ht : (ztys Y)[k]? = some (Y.2 k, ty)) (hp : ty = .int ∨ ty = .long ∨ ty = .boolean) (h : s.vm.findClass ("[" ++ ty.toString) = some cA) : cA = Y.2 k := by
  have h1 := (hK.2 k _ ht).2
  rcases hp with rfl | rfl | rfl <;> exact Option.some.inj (h.symm.trans h1)
theorem zarrc : Cond.arrayClass .int ∈ zT ∧ Cond.arrayClass .long ∈ zT ∧ Cond.arrayClass .boolean ∈ zT := by decide +kernel
theorem zHna_ok {t : ArrayType} (hx : p.tables.exec = Jvm.exec) (hb : c.code = cc) (hts : ∀ w ∈ zT, w.before args s = true) (hK : va_K Y.1 vwCl (ztys Y) s) (hz : zHna t len pc st w = some (pc', st', w')) (hd : decode cc pc = .ok (.newarray t, len)) (hw : zw Y z0 s H w) (h0 : z0 ≤ s.heap.size) (hS : va_S (fun q => z0 ≤ q) s.heap H locs) (hcells : cells + (w'.2.1 - w.2.1) ≤ R.cells) (hslots : slots + (w'.2.2 - w.2.2) ≤ R.slots) (kk : ∀ (H1 : Heap) (locs1 : List Loc), zw Y z0 s H1 w' → va_S (fun q => z0 ≤ q) s.heap H1 locs1 → W p l e R s m args below meth c H1 locs1 (cells + (w'.2.1 - w.2.1)) (slots + (w'.2.2 - w.2.2)) Q (F0 m pc' ls st')) : W p l e R s m args below meth c H locs cells slots Q (F0 m pc ls st) := by
  unfold zHna at hz
  split at hz
  · rename_i n r
    split at hz
    · rename_i hl
      obtain ⟨rfl, hn, hN⟩ := hl
      have hS1 : ∀ H1 : Heap, H1.size = H.size + 1 → (∀ q, q < H.size → H1[q]? = H[q]?) → va_S (fun q => z0 ≤ q) s.heap H1 locs := fun H1 z1 o1 => ⟨Nat.le_trans hS.1 (by omega), fun x h1 h2 => (o1 x (Nat.lt_of_lt_of_le h1 hS.1)).trans (hS.2.1 x h1 h2), hS.2.2⟩
      split at hz
      · simp only [Option.some.injEq, Prod.mk.injEq] at hz
        obtain ⟨rfl, rfl, rfl⟩ := hz
        dsimp only at hcells hslots kk
        rw [Nat.add_sub_cancel_left] at hcells hslots kk
        rw [Nat.add_sub_cancel_left] at kk
        refine va_newaK (atype := .int) hx hb (hts _ zarrc.1) rfl hd rfl hn rfl (by show _ * 4 ≤ _; omega) hcells hslots rfl fun H1 cA e1 z1 o1 hAr hNm => ?_
        obtain rfl := zRA (k := 0) hK rfl (Or.inl rfl) hNm
        have hk := kk H1 locs (hw.new (e := .inl (0, n.toNatClampNeg, .inl (fun _ => 0))) (Nat.le_trans h0 hS.1) (by show H1[H.size]? = some (vp_cell _ _); rw [e1]; rfl) z1 o1 _) (hS1 H1 z1 o1)
        rw [← hw.1] at hk
        exact hk
      · simp only [Option.some.injEq, Prod.mk.injEq] at hz
        obtain ⟨rfl, rfl, rfl⟩ := hz
        dsimp only at hcells hslots kk
        rw [Nat.add_sub_cancel_left] at hcells hslots kk
        rw [Nat.add_sub_cancel_left] at kk
        refine va_newaK (atype := .long) hx hb (hts _ zarrc.2.1) rfl hd rfl hn rfl (by show _ * 8 ≤ _; omega) hcells hslots rfl fun H1 cA e1 z1 o1 hAr hNm => ?_
        obtain rfl := zRA (k := 1) hK rfl (Or.inr (Or.inl rfl)) hNm
        have hk := kk H1 locs (hw.new (e := .inl (1, n.toNatClampNeg, .inr (.inl (fun _ => 0)))) (Nat.le_trans h0 hS.1) (by show H1[H.size]? = some (vp_cell _ _); rw [e1]; rfl) z1 o1 _) (hS1 H1 z1 o1)
        rw [← hw.1] at hk
        exact hk
      · simp only [Option.some.injEq, Prod.mk.injEq] at hz
        obtain ⟨rfl, rfl, rfl⟩ := hz
        dsimp only at hcells hslots kk
        rw [Nat.add_sub_cancel_left] at hcells hslots kk
        rw [Nat.add_sub_cancel_left] at kk
        refine va_newaK (atype := .boolean) hx hb (hts _ zarrc.2.2) rfl hd rfl hn rfl (by show _ * 1 ≤ _; omega) hcells hslots rfl fun H1 cA e1 z1 o1 hAr hNm => ?_
        obtain rfl := zRA (k := 2) hK rfl (Or.inr (Or.inr rfl)) hNm
        have hk := kk H1 locs (hw.new (e := .inl (2, n.toNatClampNeg, .inl (fun _ => 0))) (Nat.le_trans h0 hS.1) (by show H1[H.size]? = some (vp_cell _ _); rw [e1]; rfl) z1 o1 _) (hS1 H1 z1 o1)
        rw [← hw.1] at hk
        exact hk
      · cases hz
    · cases hz
  · cases hz
end ZHW
end
section
/-! arrays of references, casts, constants, the library's small calls -/
/-- calls by number -/
def zcl (o idx : Nat) : Option (Nat × Nat × Nat × Nat) := (zCl.find? (fun e => e.1 == o && e.2.1 == idx)).map (fun e => e.2.2)
def zclv (o idx ci : Nat) : Option (Nat × Nat × Nat × Nat) := (zCl.find? (fun e => e.1 == o && e.2.1 == idx && e.2.2.2.1 == ci)).map (fun e => e.2.2)
def zsum (r : List Value) : Nat := (r.map fun v => v.category).sum
/-- Object's constructor, min, max, arraycopy -/
def zHob (o d idx len pc : Nat) (st : List Value) (w : zW) : Option zG := match st with
  | .ref _ :: r => if len = 3 ∧ 1 ≤ d ∧ zsum r ≤ 8 ∧ zcl o idx = some (6, 0, 0, 0) then some (pc + 3, r, w) else none
  | _ => none
def zHmm (o d idx len pc : Nat) (st : List Value) (w : zW) : Option zG := match st with
  | .int y :: .int x :: r => if len = 3 ∧ 1 ≤ d ∧ zsum r ≤ 8 then (if zcl o idx = some (8, 0, 0, 2) then some (pc + 3, .int (if y < x then y else x) :: r, w) else if zcl o idx = some (9, 0, 0, 2) then some (pc + 3, .int (if x < y then y else x) :: r, w) else none) else none
  | _ => none
def zHcp (o d idx len pc : Nat) (st : List Value) (w : zW) : Option zG := match st with
  | .int n :: .int dp :: .ref a :: .int sp :: .ref a0 :: r => if len = 3 ∧ 1 ≤ d ∧ zsum r ≤ 8 ∧ zcl o idx = some (7, 0, 0, 5) ∧ ¬ sp < 0 ∧ ¬ dp < 0 ∧ ¬ n < 0 then (match w.1 a0, w.1 a with
    | some (.inl (0, n0, .inl f)), some (.inl (0, n1, .inl g)) => if sp.toNatClampNeg + n.toNatClampNeg ≤ n0 ∧ dp.toNatClampNeg + n.toNatClampNeg ≤ n1 then some (pc + 3, r, (va_up w.1 a (some (.inl (0, n1, .inl (va_cpy f g sp.toNatClampNeg dp.toNatClampNeg n.toNatClampNeg)))), w.2)) else none
    | some (.inl (1, n0, .inr (.inl f))), some (.inl (1, n1, .inr (.inl g))) => if sp.toNatClampNeg + n.toNatClampNeg ≤ n0 ∧ dp.toNatClampNeg + n.toNatClampNeg ≤ n1 then some (pc + 3, r, (va_up w.1 a (some (.inl (1, n1, .inr (.inl (va_cpy f g sp.toNatClampNeg dp.toNatClampNeg n.toNatClampNeg))))), w.2)) else none
    | _, _ => none) else none
  | _ => none
def zHl2 (o idx len pc : Nat) (st : List Value) (w : zW) : Option zG := match zlk o idx with
  | some v => if len = 3 then some (pc + 3, .long v :: st, w) else none
  | none => none
def zHlw (o idx len pc : Nat) (st : List Value) (w : zW) : Option zG := match zik o idx with
  | some v => if len = 3 then some (pc + 3, .int v :: st, w) else none
  | none => none
def zClB (e : Nat × Nat × Nat × Nat × Nat × Nat) : Bool := match e.2.2.1 with
  | 6 => decide (Cond.methodLink (zOwn e.1) e.2.1 objectInit ∈ zT)
  | 7 => decide (Cond.methodLink (zOwn e.1) e.2.1 arraycopyName ∈ zT)
  | 8 => decide (Cond.methodLink (zOwn e.1) e.2.1 Lib.Math.min.name ∈ zT)
  | 9 => decide (Cond.methodLink (zOwn e.1) e.2.1 Lib.Math.max.name ∈ zT)
  | _ => true
theorem zCl_ok : zCl.all zClB = true := by decide +kernel
theorem zcl_inv {o idx : Nat} {q : Nat × Nat × Nat × Nat} (h : zcl o idx = some q) : (o, idx, q) ∈ zCl := by
  unfold zcl at h
  cases hf : zCl.find? (fun e => e.1 == o && e.2.1 == idx) with
  | none => rw [hf] at h; cases h
  | some e =>
    rw [hf] at h
    simp only [Option.map_some, Option.some.injEq] at h
    have hp := List.find?_some hf
    simp only [Bool.and_eq_true, beq_iff_eq] at hp
    rw [← hp.1, ← hp.2, ← h]
    exact List.mem_of_find?_eq_some hf
theorem zclv_inv {o idx ci : Nat} {q : Nat × Nat × Nat × Nat} (h : zclv o idx ci = some q) : (o, idx, q) ∈ zCl ∧ q.2.1 = ci := by
  unfold zclv at h
  cases hf : zCl.find? (fun e => e.1 == o && e.2.1 == idx && e.2.2.2.1 == ci) with
  | none => rw [hf] at h; cases h
  | some e =>
    rw [hf] at h
    simp only [Option.map_some, Option.some.injEq] at h
    have hp := List.find?_some hf
    simp only [Bool.and_eq_true, beq_iff_eq] at hp
    refine ⟨?_, by rw [← h]; exact hp.2⟩
    rw [← hp.1.1, ← hp.1.2, ← h]
    exact List.mem_of_find?_eq_some hf
theorem zfix : Cond.instanceMethod objectInit ∈ zT ∧ Cond.code objectInit ⟨#[0xb1]⟩ 1 none ∈ zT ∧ Cond.static Lib.Math.min.name ∈ zT ∧ Cond.initialized "java/lang/Math" ∈ zT ∧ Cond.code Lib.Math.min.name Lib.Math.min.code 2 (some .int) ∈ zT ∧ Cond.static Lib.Math.max.name ∈ zT ∧ Cond.code Lib.Math.max.name Lib.Math.max.code 2 (some .int) ∈ zT ∧ Cond.native arraycopyName ∈ zT ∧ Cond.static arraycopyName ∈ zT ∧ Cond.initialized "java/lang/System" ∈ zT := by decide +kernel
section ZHO
variable {p : Program} {l : Launch} {e : Env} {R : Room} {s : State} {m : MethodId} {args : Array Value} {below : List Frame} {meth : Method} {c : Code} {H : Heap} {locs : List Loc} {cells slots : Nat} {Q : State → Prop}
variable {cc : ByteArray} {pc len : Nat} {ls : Array Slot} {st st' : List Value} {pc' : Nat} {Y : zY} {z0 : Nat} {w w' : zW}
theorem zHnq_ok {o idx : Nat} (hx : p.tables.exec = Jvm.exec) (hb : c.code = cc) (hts : ∀ w ∈ zT, w.before args s = true) (hown : s.vm.findClass (zOwn o) = some m.cls) (hKz : zK Y s) (hz : zHnq o idx len pc st w = some (pc', st', w')) (hd : decode cc pc = .ok (.anewarray idx, len)) (hw : zw Y z0 s H w) (h0 : z0 ≤ s.heap.size) (hS : va_S (fun q => z0 ≤ q) s.heap H locs) (hcells : cells + (w'.2.1 - w.2.1) ≤ R.cells) (hslots : slots + (w'.2.2 - w.2.2) ≤ R.slots) (kk : ∀ (H1 : Heap) (locs1 : List Loc), zw Y z0 s H1 w' → va_S (fun q => z0 ≤ q) s.heap H1 locs1 → W p l e R s m args below meth c H1 locs1 (cells + (w'.2.1 - w.2.1)) (slots + (w'.2.2 - w.2.2)) Q (F0 m pc' ls st')) : W p l e R s m args below meth c H locs cells slots Q (F0 m pc ls st) := by
  obtain ⟨hK, h9, hA2, hA5, -⟩ := hKz
  have go : ∀ (kd : Nat) (C : String), (ztys Y)[kd]? = some (Y.2 kd, .object C) → Cond.classLink (zOwn o) idx C ∈ zT → va_AO C s → ∀ (n : Int32) (r : List Value), ¬ n < 0 → n.toNatClampNeg ≤ 67108864 → st = .int n :: r → pc' = pc + 3 → st' = .ref w.2.1 :: r → w' = (va_up w.1 w.2.1 (some (.inl (kd, n.toNatClampNeg, .inr (.inr (.inr (.inr (fun _ => none))))))), w.2.1 + 1, w.2.2 + n.toNatClampNeg) → len = 3 → W p l e R s m args below meth c H locs cells slots Q (F0 m pc ls st) := by
    rintro kd C ht hlk hAO n r hn hN rfl rfl rfl rfl rfl
    dsimp only at hcells hslots kk
    rw [Nat.add_sub_cancel_left] at hcells hslots kk
    rw [Nat.add_sub_cancel_left] at kk
    refine W.anew hx hb hown (hts _ hlk) (va_AO.use hAO) rfl hd rfl hn (by omega) hcells hslots fun cA kA comp f1 f2 f3 f4 => ?_
    obtain ⟨kA', comp', -, -, -, g4⟩ := (hK.2 kd _ ht).2
    obtain rfl : cA = Y.2 kd := Option.some.inj (f1.symm.trans g4)
    generalize hH1 : H.push ({ cls := Y.2 kd, slots := Array.replicate n.toNatClampNeg .null, vm := .none } : Cell) = H1
    have z1 : H1.size = H.size + 1 := by rw [← hH1, Array.size_push]
    have e1 : H1[H.size]? = some (arrV (Y.2 kd) n.toNatClampNeg (fun _ => .null)) := by rw [← hH1, Array.getElem?_push_size, ← arrV_new]
    have o1 : ∀ q : Nat, q < H.size → H1[q]? = H[q]? := fun q hq => by rw [← hH1, Array.getElem?_push, if_neg (Nat.ne_of_lt hq)]
    have hk := kk H1 locs (hw.new (e := .inl (kd, n.toNatClampNeg, .inr (.inr (.inr (.inr (fun _ => none)))))) (Nat.le_trans h0 hS.1) (by show H1[H.size]? = some (vp_cell _ _); rw [e1]; rfl) z1 o1 _) ⟨Nat.le_trans hS.1 (by omega), fun x h1 h2 => (o1 x (Nat.lt_of_lt_of_le h1 hS.1)).trans (hS.2.1 x h1 h2), hS.2.2⟩
    rw [← hw.1] at hk
    exact hk
  have hlks : Cond.classLink (zOwn 6) 16 RX2 ∈ zT ∧ Cond.classLink (zOwn 3) 9 RX5 ∈ zT := by decide +kernel
  unfold zHnq at hz
  split at hz
  · rename_i n r
    split at hz
    · rename_i kd hkd
      split at hz
      · rename_i hc
        obtain ⟨hl, hn, hN⟩ := hc
        simp only [Option.some.injEq, Prod.mk.injEq] at hz
        obtain ⟨e1, e2, e3⟩ := hz
        unfold zan at hkd
        split at hkd
        · rename_i ho
          obtain ⟨rfl, rfl⟩ := ho
          cases hkd
          exact go 3 RX2 rfl hlks.1 hA2 n r hn hN rfl e1.symm e2.symm e3.symm hl
        · split at hkd
          · rename_i ho
            obtain ⟨rfl, rfl⟩ := ho
            cases hkd
            exact go 4 RX5 rfl hlks.2 hA5 n r hn hN rfl e1.symm e2.symm e3.symm hl
          · cases hkd
      · cases hz
    · cases hz
  · cases hz
theorem zHas_ok (hx : p.tables.exec = Jvm.exec) (hb : c.code = cc) (hKz : zK Y s) (hz : zHas len pc st w = some (pc', st', w')) (hd : decode cc pc = .ok (.aastore, len)) (hw : zw Y z0 s H w) (hS : va_S (fun q => z0 ≤ q) s.heap H locs) (kk : ∀ (H1 : Heap) (locs1 : List Loc), zw Y z0 s H1 w' → va_S (fun q => z0 ≤ q) s.heap H1 locs1 → w'.2 = w.2 → W p l e R s m args below meth c H1 locs1 cells slots Q (F0 m pc' ls st')) : W p l e R s m args below meth c H locs cells slots Q (F0 m pc ls st) := by
  obtain ⟨hK, h9, hA2, hA5, hc02, hc32, -⟩ := hKz
  have go : ∀ (kd ci N v a : Nat) (E : String) (f : Nat → Option Nat) (fs : List Value) (i : Int32) (r : List Value), (ztys Y)[kd]? = some (Y.2 kd, .object E) → kd ≠ 9 → ci < 6 → (∀ comp : ClassId, s.vm.findClass E = some comp → s.vm.assignable (Y.1.1 ci) comp = true) → w.1 a = some (.inl (kd, N, .inr (.inr (.inr (.inr f))))) → w.1 v = some (.inr (ci, fs)) → zbd i N = true → st = .ref v :: .int i :: .ref a :: r → pc' = pc + 1 → st' = r → w' = (va_up w.1 a (some (.inl (kd, N, .inr (.inr (.inr (.inr (va_up f i.toNatClampNeg (some v)))))))), w.2) → len = 1 → W p l e R s m args below meth c H locs cells slots Q (F0 m pc ls st) := by
    rintro kd ci N v a E f fs i r ht h9 hci hasg ha hv hin rfl rfl rfl rfl rfl
    have hin := zbd_inv hin
    have hlt : i.toNatClampNeg < N := Nat.not_le.mp fun q => hin (Or.inr q)
    have hi0 : ¬ i < 0 := fun q => hin (Or.inl q)
    obtain ⟨ws, q, hP, -, hq⟩ := hw.arr ha h9
    obtain ⟨ws', q', hP', -, hq'⟩ := hw.obj hv
    obtain ⟨r', hr', cellV, g1, g2, g3, -⟩ := hP' q' _ hq'
    have hcls := (hK.1 ci _ (ztab_in hci)).2
    obtain ⟨kA, comp, k1, k2, k3, -⟩ := (hK.2 kd _ ht).2
    obtain ⟨kE, hkE, -⟩ := Vm.findClass_spec k3
    obtain ⟨kC, hkC, -⟩ := hcls.2
    refine W.aast hx hb (hP q _ hq) (fun q h => by cases h) (fun h => by cases h) k1 k2 rfl hkE ⟨hi0, by show _ < (arrV _ _ _).slots.size; rw [arrV_size]; exact hlt⟩ g1 (fun q h => by rw [g3] at h; cases h) (by rw [g2]; exact hkC) (by rw [g2]; exact hasg comp k3) rfl rfl hd fun H1 e1 z1 oq => ?_
    obtain ⟨hw1, h0⟩ := hw.put (e := .inl (kd, N, .inr (.inr (.inr (.inr (va_up f i.toNatClampNeg (some v))))))) ha (fun y => by simp [h9]) (by
      show H1[a]? = some (vp_cell _ _)
      rw [e1]
      rw [vp_cell_q, vp_cell_q, arrV_store]
      congr 2
      funext j
      by_cases hj : j = i.toNatClampNeg
      · subst hj
        simp [updV, va_up, va_rf]
      · simp [updV, va_up, hj]) z1 oq
    exact kk H1 _ hw1 (hS.put z1 oq h0) rfl
  have cast : ∀ (ci : Nat) (E : String), ci < 6 → va_Nw (.castable (ztab ci).1 E) s → ∀ comp : ClassId, s.vm.findClass E = some comp → s.vm.assignable (Y.1.1 ci) comp = true := by
    intro ci E hci hca comp hE
    obtain ⟨c0, t1, f1, f2, f3⟩ := Cond.castable_spec (va_Nw.use (A := args) rfl hca)
    have hcls := (hK.1 ci _ (ztab_in hci)).2
    cases hcls.1.symm.trans f1
    cases hE.symm.trans f2
    exact f3
  unfold zHas at hz
  split at hz
  · rename_i v i a r
    split at hz
    · rename_i kd N f ci fs ha hv
      split at hz
      · rename_i hc
        obtain ⟨hl, hkd, hin⟩ := hc
        simp only [Option.some.injEq, Prod.mk.injEq] at hz
        obtain ⟨e1, e2, e3⟩ := hz
        rcases hkd with ⟨rfl, rfl | rfl⟩ | ⟨rfl, rfl⟩
        · exact go 3 0 N v a RX2 f fs i r rfl (by decide) (by decide) (cast 0 RX2 (by decide) hc02) ha hv hin rfl e1.symm e2.symm e3.symm hl
        · exact go 3 2 N v a RX2 f fs i r rfl (by decide) (by decide) (cast 2 RX2 (by decide) hc32) ha hv hin rfl e1.symm e2.symm e3.symm hl
        · refine go 4 3 N v a RX5 f fs i r rfl (by decide) (by decide) ?_ ha hv hin rfl e1.symm e2.symm e3.symm hl
          intro comp hE
          have hcls := (hK.1 3 _ (ztab_in (by decide))).2
          obtain rfl : comp = Y.1.1 3 := Option.some.inj (hE.symm.trans hcls.1)
          exact va_assign hcls
      · cases hz
    · cases hz
  · cases hz
theorem zrecv {a ci : Nat} {fs : List Value} (hK : va_K Y.1 vwCl (ztys Y) s) (hw : zw Y z0 s H w) (ha : w.1 a = some (.inr (ci, fs))) : ci < 6 ∧ ∃ cell : Cell, H[a]? = some cell ∧ cell.vm.isStatics = false ∧ s.vm.findClass (ztab ci).1 = some cell.cls := by
  obtain ⟨ws, q, hP, -, hq⟩ := hw.obj ha
  obtain ⟨r, hr, -⟩ := hP q _ hq
  obtain ⟨hci, rfl⟩ := ztab_ok hr
  exact ⟨hci, va_recv hK hP (ci := ci) (q0 := q) hr hq⟩
theorem zHin_ok {o idx : Nat} (hx : p.tables.exec = Jvm.exec) (hb : c.code = cc) (hts : ∀ w ∈ zT, w.before args s = true) (hown : s.vm.findClass (zOwn o) = some m.cls) (hKz : zK Y s) (hz : zHin o idx len pc st w = some (pc', st', w')) (hd : decode cc pc = .ok (.instanceof idx, len)) (hw : zw Y z0 s H w) (kk : w' = w → W p l e R s m args below meth c H locs cells slots Q (F0 m pc' ls st')) : W p l e R s m args below meth c H locs cells slots Q (F0 m pc ls st) := by
  obtain ⟨hK, h9, hA2, hA5, hc02, hc32, hc33, hn03, -⟩ := hKz
  have hlk : Cond.classLink (zOwn 6) 128 RX3 ∈ zT := by decide +kernel
  unfold zHin at hz
  split at hz
  · split at hz
    · rename_i hl
      subst hl
      simp only [Option.some.injEq, Prod.mk.injEq] at hz
      obtain ⟨rfl, rfl, rfl⟩ := hz
      exact lv_instN hx hb hd (kk rfl)
    · cases hz
  · rename_i a r
    split at hz
    · rename_i ci fs ha
      split at hz
      · rename_i hc
        obtain ⟨rfl, rfl, rfl, hci⟩ := hc
        simp only [Option.some.injEq, Prod.mk.injEq] at hz
        obtain ⟨rfl, rfl, rfl⟩ := hz
        obtain ⟨-, hr⟩ := zrecv hK hw ha
        rcases hci with rfl | rfl
        · exact va_instNo hx hb hown (hts _ hlk) hn03 hr hd (kk rfl)
        · exact va_instY hx hb hown (hts _ hlk) hc33 hr hd (kk rfl)
      · cases hz
    · cases hz
  · cases hz
theorem zHcc_ok {o idx : Nat} (hx : p.tables.exec = Jvm.exec) (hb : c.code = cc) (hts : ∀ w ∈ zT, w.before args s = true) (hown : s.vm.findClass (zOwn o) = some m.cls) (hKz : zK Y s) (hz : zHcc o idx len pc st w = some (pc', st', w')) (hd : decode cc pc = .ok (.checkcast idx, len)) (hw : zw Y z0 s H w) (kk : w' = w → W p l e R s m args below meth c H locs cells slots Q (F0 m pc' ls st')) : W p l e R s m args below meth c H locs cells slots Q (F0 m pc ls st) := by
  obtain ⟨hK, h9, hA2, hA5, hc02, hc32, hc33, hn03, -⟩ := hKz
  have hlk : Cond.classLink (zOwn 6) 128 RX3 ∈ zT := by decide +kernel
  unfold zHcc at hz
  split at hz
  · rename_i a r
    split at hz
    · rename_i ci fs ha
      split at hz
      · rename_i hc
        obtain ⟨rfl, rfl, rfl, rfl⟩ := hc
        simp only [Option.some.injEq, Prod.mk.injEq] at hz
        obtain ⟨rfl, rfl, rfl⟩ := hz
        obtain ⟨-, hr⟩ := zrecv hK hw ha
        exact va_castY hx hb hown (hts _ hlk) hc33 hr hd (kk rfl)
      · cases hz
    · cases hz
  · cases hz
theorem zHl2_ok {o idx : Nat} (hx : p.tables.exec = Jvm.exec) (hb : c.code = cc) (hts : ∀ w ∈ zT, w.before args s = true) (hown : s.vm.findClass (zOwn o) = some m.cls) (hz : zHl2 o idx len pc st w = some (pc', st', w')) (hd : decode cc pc = .ok (.ldc2_w idx, len)) (kk : w' = w → W p l e R s m args below meth c H locs cells slots Q (F0 m pc' ls st')) : W p l e R s m args below meth c H locs cells slots Q (F0 m pc ls st) := by
  unfold zHl2 at hz
  split at hz
  · rename_i v hv
    split at hz
    · rename_i hl
      subst hl
      simp only [Option.some.injEq, Prod.mk.injEq] at hz
      obtain ⟨rfl, rfl, rfl⟩ := hz
      exact lv_ldc2 hx hb hown (hts _ (zlk_inv hv)) hd (kk rfl)
    · cases hz
  · cases hz
theorem zHlw_ok {o idx : Nat} (hx : p.tables.exec = Jvm.exec) (hb : c.code = cc) (hts : ∀ w ∈ zT, w.before args s = true) (hown : s.vm.findClass (zOwn o) = some m.cls) (hz : zHlw o idx len pc st w = some (pc', st', w')) (hd : decode cc pc = .ok (.ldc_w idx, len)) (kk : w' = w → W p l e R s m args below meth c H locs cells slots Q (F0 m pc' ls st')) : W p l e R s m args below meth c H locs cells slots Q (F0 m pc ls st) := by
  unfold zHlw at hz
  split at hz
  · rename_i v hv
    split at hz
    · rename_i hl
      subst hl
      simp only [Option.some.injEq, Prod.mk.injEq] at hz
      obtain ⟨rfl, rfl, rfl⟩ := hz
      exact lv_ldcw hx hb hown (hts _ (zik_inv hv)) hd (kk rfl)
    · cases hz
  · cases hz
theorem zHob_ok {o d idx : Nat} (hx : p.tables.exec = Jvm.exec) (hb : c.code = cc) (hml : c.maxLocals = ls.size) (hts : ∀ w ∈ zT, w.before args s = true) (hown : s.vm.findClass (zOwn o) = some m.cls) (hz : zHob o d idx len pc st w = some (pc', st', w')) (hd : decode cc pc = .ok (.invokespecial idx, len)) (hfr : d ≤ R.frames) (hlo : 60 * d ≤ R.locals) (kk : w' = w → W p l e R s m args below meth c H locs cells slots Q (F0 m pc' ls st')) : W p l e R s m args below meth c H locs cells slots Q (F0 m pc ls st) := by
  unfold zHob at hz
  split at hz
  · rename_i a r
    split at hz
    · rename_i hc
      obtain ⟨rfl, hd1, hr8, hcl⟩ := hc
      simp only [Option.some.injEq, Prod.mk.injEq] at hz
      obtain ⟨rfl, rfl, rfl⟩ := hz
      have h1 := List.all_eq_true.mp zCl_ok _ (zcl_inv hcl)
      unfold zsum at hr8
      refine W.objInit hx hb hown (hts _ (of_decide_eq_true h1)) (hts _ zfix.1) (hts _ zfix.2.1) rfl hml.symm rfl hd (by omega) (by show 2 * 0 + _ + 12 ≤ _; omega) ?_
      exact kk rfl
    · cases hz
  · cases hz
theorem zHmm_ok {o d idx : Nat} (hx : p.tables.exec = Jvm.exec) (hb : c.code = cc) (hml : c.maxLocals = ls.size) (hts : ∀ w ∈ zT, w.before args s = true) (hown : s.vm.findClass (zOwn o) = some m.cls) (hz : zHmm o d idx len pc st w = some (pc', st', w')) (hd : decode cc pc = .ok (.invokestatic idx, len)) (hfr : d ≤ R.frames) (hlo : 60 * d ≤ R.locals) (hce : cells ≤ R.cells) (hsl : slots ≤ R.slots) (kk : w' = w → W p l e R s m args below meth c H locs cells slots Q (F0 m pc' ls st')) : W p l e R s m args below meth c H locs cells slots Q (F0 m pc ls st) := by
  unfold zHmm at hz
  split at hz
  · rename_i y x r
    split at hz
    · rename_i hc
      obtain ⟨rfl, hd1, hr8⟩ := hc
      unfold zsum at hr8
      obtain ⟨f1, f2, f3, f4, f5, f6, f7, -⟩ := zfix
      split at hz
      · rename_i hcl
        simp only [Option.some.injEq, Prod.mk.injEq] at hz
        obtain ⟨rfl, rfl, rfl⟩ := hz
        have h1 := List.all_eq_true.mp zCl_ok _ (zcl_inv hcl)
        exact va_mmin hx hb hml hown (hts _ (of_decide_eq_true h1)) (hts _ f3) (hts _ f4) (hts _ f5) (by omega) (by omega) hce hsl hd (kk rfl)
      · split at hz
        · rename_i hcl
          simp only [Option.some.injEq, Prod.mk.injEq] at hz
          obtain ⟨rfl, rfl, rfl⟩ := hz
          have h1 := List.all_eq_true.mp zCl_ok _ (zcl_inv hcl)
          exact va_mmax hx hb hml hown (hts _ (of_decide_eq_true h1)) (hts _ f6) (hts _ f4) (hts _ f7) (by omega) (by omega) hce hsl hd (kk rfl)
        · cases hz
    · cases hz
  · cases hz
end ZHO
end
section
/-! arraycopy of ints and of longs -/
theorem znn (z : Int32) (hz : ¬ z < 0) : z.toInt = (z.toNatClampNeg : Int) := by
  have hz0 : (0 : Int) ≤ z.toInt := by
    have := Int32.not_lt.mp hz
    simpa using Int32.le_iff_toInt_le.mp this
  show z.toInt = ((z.toInt.toNat : Nat) : Int)
  omega
section ZCP
variable {p : Program} {l : Launch} {e : Env} {R : Room} {s : State} {m : MethodId} {args : Array Value} {below : List Frame} {meth : Method} {c : Code} {H : Heap} {locs : List Loc} {cells slots : Nat} {Q : State → Prop}
variable {cc : ByteArray} {pc len : Nat} {ls : Array Slot} {st st' : List Value} {pc' : Nat} {Y : zY} {z0 : Nat} {w w' : zW}
theorem zcp_i {own : String} {index a0 a n0 n1 : Nat} {f g : Nat → Int32} {sp dp n : Int32} {rest : List Value} (hexec : p.tables.exec = Jvm.exec) (hb : c.code = cc) (hml : c.maxLocals = ls.size) (hown : s.vm.findClass own = some m.cls) (hlink : (Cond.methodLink own index arraycopyName).before args s = true) (hnat : (Cond.native arraycopyName).before args s = true) (hstat : (Cond.static arraycopyName).before args s = true) (hini : (Cond.initialized "java/lang/System").before args s = true)
    (hK : va_K Y.1 vwCl (ztys Y) s) (hw : zw Y z0 s H w) (hS : va_S (fun q => z0 ≤ q) s.heap H locs) (ha0 : w.1 a0 = some (.inl (0, n0, .inl f))) (ha1 : w.1 a = some (.inl (0, n1, .inl g))) (h1 : ¬ sp < 0) (h2 : ¬ dp < 0) (h3 : ¬ n < 0) (h4 : sp.toNatClampNeg + n.toNatClampNeg ≤ n0) (h5 : dp.toNatClampNeg + n.toNatClampNeg ≤ n1)
    (hframes : 1 ≤ R.frames) (hlocals : (rest.map fun v => v.category).sum + (nativeFrameWords "java/lang/System" "arraycopy" 5 + 11) ≤ R.locals) (hdg : decode cc pc = .ok (.invokestatic index, 3))
    (kk : ∀ (H1 : Heap) (locs1 : List Loc), zw Y z0 s H1 (va_up w.1 a (some (.inl (0, n1, .inl (va_cpy f g sp.toNatClampNeg dp.toNatClampNeg n.toNatClampNeg)))), w.2) → va_S (fun q => z0 ≤ q) s.heap H1 locs1 → W p l e R s m args below meth c H1 locs1 cells slots Q (F0 m (pc + 3) ls rest)) : W p l e R s m args below meth c H locs cells slots Q (F0 m pc ls (.int n :: .int dp :: .ref a :: .int sp :: .ref a0 :: rest)) := by
  intro T hT X
  obtain ⟨ws0, q0, hP0, -, hq0⟩ := hw.arr ha0 (by decide)
  obtain ⟨ws1, q1, hP1, hD1, hq1⟩ := hw.arr ha1 (by decide)
  have hc0 : H[a0]? = some (vp_cell (Y.2 0) (n0, .inl f)) := hP0 q0 _ hq0
  have hc1 : H[a]? = some (vp_cell (Y.2 0) (n1, .inl g)) := hP1 q1 _ hq1
  obtain ⟨-, k0, hk0, cm0, hkk0⟩ := (hK.2 0 _ rfl).1 n0 (fun j => .int (f j))
  obtain ⟨-, k1, hk1, cm1, hkk1⟩ := (hK.2 0 _ rfl).1 n1 (fun j => .int (g j))
  obtain ⟨vm', X', step⟩ := X.arraycopy hexec hown hlink hnat hstat hini (src := a0) (dst := a) (cs := vp_cell (Y.2 0) (n0, .inl f)) (cd := vp_cell (Y.2 0) (n1, .inl g)) (srcPos := sp) (destPos := dp) (n := n) (by rw [hT]; exact hc0) (by rw [hT]; exact hc1)
    (fun _ h => by cases h) (fun _ h => by cases h) (fun h => by cases h) (fun h => by cases h) hk0 hk1 hkk0 hkk1 (by simp [refKind]) h1 h2 h3
    (by rw [znn sp h1, znn n h3]; show ¬ _ > ((arrV (Y.2 0) n0 (fun j => .int (f j))).slots.size : Int); rw [arrV_size]; omega)
    (by rw [znn dp h2, znn n h3]; show ¬ _ > ((arrV (Y.2 0) n1 (fun j => .int (g j))).slots.size : Int); rw [arrV_size]; omega)
    (fun vm₁ _ i hi => by
      have e : (vp_cell (Y.2 0) (n0, .inl f)).slots.getD (sp.toNatClampNeg + i) .null = .int (f (sp.toNatClampNeg + i)) := by
        show (arrV (Y.2 0) n0 (fun j => .int (f j))).slots.getD _ _ = _
        rw [Array.getD_eq_getD_getElem?, arrV_read _ _ (by omega)]
        rfl
      refine ⟨?_, ?_⟩
      · rw [e]
        rfl
      · rw [e]
        exact trivial)
    (g := F0 m pc ls (.int n :: .int dp :: .ref a :: .int sp :: .ref a0 :: rest)) rfl (by rw [hml]) (rest := rest) rfl (by rw [hb]; exact hdg) hframes (by show 2 * 0 + _ + _ ≤ _; omega)
  have e1 : copied (vp_cell (Y.2 0) (n0, .inl f)) (vp_cell (Y.2 0) (n1, .inl g)) sp dp n = vp_cell (Y.2 0) (n1, .inl (va_cpy f g sp.toNatClampNeg dp.toNatClampNeg n.toNatClampNeg)) := va_copied (fun z => .int z) (Y.2 0) (Y.2 0) f g h4
  rw [e1] at X' step
  have hl : a < H.size := (Array.getElem?_eq_some_iff.mp hc1).1
  have hheap : ((T.setVm vm').setCell a (vp_cell (Y.2 0) (n1, .inl (va_cpy f g sp.toNatClampNeg dp.toNatClampNeg n.toNatClampNeg)))).heap = H.setIfInBounds a (vp_cell (Y.2 0) (n1, .inl (va_cpy f g sp.toNatClampNeg dp.toNatClampNeg n.toNatClampNeg))) := by rw [← hT]; rfl
  have oq : ∀ q : Nat, q ≠ a → (H.setIfInBounds a (vp_cell (Y.2 0) (n1, .inl (va_cpy f g sp.toNatClampNeg dp.toNatClampNeg n.toNatClampNeg))))[q]? = H[q]? := fun q hq => by simp [Array.getElem?_setIfInBounds, Ne.symm hq]
  obtain ⟨hw1, h0⟩ := hw.put (e := .inl (0, n1, .inl (va_cpy f g sp.toNatClampNeg dp.toNatClampNeg n.toNatClampNeg))) ha1 (fun y => by simp) (show (H.setIfInBounds a (vp_cell (Y.2 0) (n1, .inl (va_cpy f g sp.toNatClampNeg dp.toNatClampNeg n.toNatClampNeg))))[a]? = some _ by simp [Array.getElem?_setIfInBounds, hl]) (by simp) oq
  obtain ⟨t, a1, b1⟩ := kk _ _ hw1 ⟨by simp; exact hS.1, fun q g1 g2 => by
      rw [oq q (fun e => g2 (by rw [e]; exact h0))]
      exact hS.2.1 q g1 g2, fun q hq => by
      rcases List.mem_append.mp hq with h | h
      · exact hS.2.2 q h
      · obtain ⟨z, -, hz⟩ := List.mem_map.mp h
        rw [← hz]
        exact h0⟩ _ hheap X'
  exact ⟨t, step t a1, b1⟩
theorem zcp_l {own : String} {index a0 a n0 n1 : Nat} {f g : Nat → Int64} {sp dp n : Int32} {rest : List Value} (hexec : p.tables.exec = Jvm.exec) (hb : c.code = cc) (hml : c.maxLocals = ls.size) (hown : s.vm.findClass own = some m.cls) (hlink : (Cond.methodLink own index arraycopyName).before args s = true) (hnat : (Cond.native arraycopyName).before args s = true) (hstat : (Cond.static arraycopyName).before args s = true) (hini : (Cond.initialized "java/lang/System").before args s = true)
    (hK : va_K Y.1 vwCl (ztys Y) s) (hw : zw Y z0 s H w) (hS : va_S (fun q => z0 ≤ q) s.heap H locs) (ha0 : w.1 a0 = some (.inl (1, n0, .inr (.inl f)))) (ha1 : w.1 a = some (.inl (1, n1, .inr (.inl g)))) (h1 : ¬ sp < 0) (h2 : ¬ dp < 0) (h3 : ¬ n < 0) (h4 : sp.toNatClampNeg + n.toNatClampNeg ≤ n0) (h5 : dp.toNatClampNeg + n.toNatClampNeg ≤ n1)
    (hframes : 1 ≤ R.frames) (hlocals : (rest.map fun v => v.category).sum + (nativeFrameWords "java/lang/System" "arraycopy" 5 + 11) ≤ R.locals) (hdg : decode cc pc = .ok (.invokestatic index, 3))
    (kk : ∀ (H1 : Heap) (locs1 : List Loc), zw Y z0 s H1 (va_up w.1 a (some (.inl (1, n1, .inr (.inl (va_cpy f g sp.toNatClampNeg dp.toNatClampNeg n.toNatClampNeg))))), w.2) → va_S (fun q => z0 ≤ q) s.heap H1 locs1 → W p l e R s m args below meth c H1 locs1 cells slots Q (F0 m (pc + 3) ls rest)) : W p l e R s m args below meth c H locs cells slots Q (F0 m pc ls (.int n :: .int dp :: .ref a :: .int sp :: .ref a0 :: rest)) := by
  intro T hT X
  obtain ⟨ws0, q0, hP0, -, hq0⟩ := hw.arr ha0 (by decide)
  obtain ⟨ws1, q1, hP1, hD1, hq1⟩ := hw.arr ha1 (by decide)
  have hc0 : H[a0]? = some (vp_cell (Y.2 1) (n0, .inr (.inl f))) := hP0 q0 _ hq0
  have hc1 : H[a]? = some (vp_cell (Y.2 1) (n1, .inr (.inl g))) := hP1 q1 _ hq1
  obtain ⟨-, k0, hk0, cm0, hkk0⟩ := (hK.2 1 _ rfl).1 n0 (fun j => .long (f j))
  obtain ⟨-, k1, hk1, cm1, hkk1⟩ := (hK.2 1 _ rfl).1 n1 (fun j => .long (g j))
  obtain ⟨vm', X', step⟩ := X.arraycopy hexec hown hlink hnat hstat hini (src := a0) (dst := a) (cs := vp_cell (Y.2 1) (n0, .inr (.inl f))) (cd := vp_cell (Y.2 1) (n1, .inr (.inl g))) (srcPos := sp) (destPos := dp) (n := n) (by rw [hT]; exact hc0) (by rw [hT]; exact hc1)
    (fun _ h => by cases h) (fun _ h => by cases h) (fun h => by cases h) (fun h => by cases h) hk0 hk1 hkk0 hkk1 (by simp [refKind]) h1 h2 h3
    (by rw [znn sp h1, znn n h3]; show ¬ _ > ((arrV (Y.2 1) n0 (fun j => .long (f j))).slots.size : Int); rw [arrV_size]; omega)
    (by rw [znn dp h2, znn n h3]; show ¬ _ > ((arrV (Y.2 1) n1 (fun j => .long (g j))).slots.size : Int); rw [arrV_size]; omega)
    (fun vm₁ _ i hi => by
      have e : (vp_cell (Y.2 1) (n0, .inr (.inl f))).slots.getD (sp.toNatClampNeg + i) .null = .long (f (sp.toNatClampNeg + i)) := by
        show (arrV (Y.2 1) n0 (fun j => .long (f j))).slots.getD _ _ = _
        rw [Array.getD_eq_getD_getElem?, arrV_read _ _ (by omega)]
        rfl
      refine ⟨?_, ?_⟩
      · rw [e]
        rfl
      · rw [e]
        exact trivial)
    (g := F0 m pc ls (.int n :: .int dp :: .ref a :: .int sp :: .ref a0 :: rest)) rfl (by rw [hml]) (rest := rest) rfl (by rw [hb]; exact hdg) hframes (by show 2 * 0 + _ + _ ≤ _; omega)
  have e1 : copied (vp_cell (Y.2 1) (n0, .inr (.inl f))) (vp_cell (Y.2 1) (n1, .inr (.inl g))) sp dp n = vp_cell (Y.2 1) (n1, .inr (.inl (va_cpy f g sp.toNatClampNeg dp.toNatClampNeg n.toNatClampNeg))) := va_copied (fun z => .long z) (Y.2 1) (Y.2 1) f g h4
  rw [e1] at X' step
  have hl : a < H.size := (Array.getElem?_eq_some_iff.mp hc1).1
  have hheap : ((T.setVm vm').setCell a (vp_cell (Y.2 1) (n1, .inr (.inl (va_cpy f g sp.toNatClampNeg dp.toNatClampNeg n.toNatClampNeg))))).heap = H.setIfInBounds a (vp_cell (Y.2 1) (n1, .inr (.inl (va_cpy f g sp.toNatClampNeg dp.toNatClampNeg n.toNatClampNeg)))) := by rw [← hT]; rfl
  have oq : ∀ q : Nat, q ≠ a → (H.setIfInBounds a (vp_cell (Y.2 1) (n1, .inr (.inl (va_cpy f g sp.toNatClampNeg dp.toNatClampNeg n.toNatClampNeg)))))[q]? = H[q]? := fun q hq => by simp [Array.getElem?_setIfInBounds, Ne.symm hq]
  obtain ⟨hw1, h0⟩ := hw.put (e := .inl (1, n1, .inr (.inl (va_cpy f g sp.toNatClampNeg dp.toNatClampNeg n.toNatClampNeg)))) ha1 (fun y => by simp) (show (H.setIfInBounds a (vp_cell (Y.2 1) (n1, .inr (.inl (va_cpy f g sp.toNatClampNeg dp.toNatClampNeg n.toNatClampNeg)))))[a]? = some _ by simp [Array.getElem?_setIfInBounds, hl]) (by simp) oq
  obtain ⟨t, a1, b1⟩ := kk _ _ hw1 ⟨by simp; exact hS.1, fun q g1 g2 => by
      rw [oq q (fun e => g2 (by rw [e]; exact h0))]
      exact hS.2.1 q g1 g2, fun q hq => by
      rcases List.mem_append.mp hq with h | h
      · exact hS.2.2 q h
      · obtain ⟨z, -, hz⟩ := List.mem_map.mp h
        rw [← hz]
        exact h0⟩ _ hheap X'
  exact ⟨t, step t a1, b1⟩
theorem znat : nativeFrameWords "java/lang/System" "arraycopy" 5 + 11 ≤ 52 := by decide +kernel
theorem zHcp_ok {o d idx : Nat} (hx : p.tables.exec = Jvm.exec) (hb : c.code = cc) (hml : c.maxLocals = ls.size) (hts : ∀ w ∈ zT, w.before args s = true) (hown : s.vm.findClass (zOwn o) = some m.cls) (hK : va_K Y.1 vwCl (ztys Y) s) (hz : zHcp o d idx len pc st w = some (pc', st', w')) (hd : decode cc pc = .ok (.invokestatic idx, len)) (hw : zw Y z0 s H w) (hS : va_S (fun q => z0 ≤ q) s.heap H locs) (hfr : d ≤ R.frames) (hlo : 60 * d ≤ R.locals) (kk : ∀ (H1 : Heap) (locs1 : List Loc), zw Y z0 s H1 w' → va_S (fun q => z0 ≤ q) s.heap H1 locs1 → w'.2 = w.2 → W p l e R s m args below meth c H1 locs1 cells slots Q (F0 m pc' ls st')) : W p l e R s m args below meth c H locs cells slots Q (F0 m pc ls st) := by
  unfold zHcp at hz
  split at hz
  · rename_i n dp a sp a0 r
    split at hz
    · rename_i hc
      obtain ⟨rfl, hd1, hr8, hcl, g1, g2, g3⟩ := hc
      have h1 := List.all_eq_true.mp zCl_ok _ (zcl_inv hcl)
      obtain ⟨f1, f2, f3, f4, f5, f6, f7, f8, f9, f10⟩ := zfix
      have hnat := znat
      unfold zsum at hr8
      split at hz
      · rename_i n0 f n1 g ha0 ha1
        split at hz
        · rename_i h4
          simp only [Option.some.injEq, Prod.mk.injEq] at hz
          obtain ⟨rfl, rfl, rfl⟩ := hz
          exact zcp_i hx hb hml hown (hts _ (of_decide_eq_true h1)) (hts _ f8) (hts _ f9) (hts _ f10) hK hw hS ha0 ha1 g1 g2 g3 h4.1 h4.2 (by omega) (by omega) hd (fun H1 locs1 a b => kk H1 locs1 a b rfl)
        · cases hz
      · rename_i n0 f n1 g ha0 ha1
        split at hz
        · rename_i h4
          simp only [Option.some.injEq, Prod.mk.injEq] at hz
          obtain ⟨rfl, rfl, rfl⟩ := hz
          exact zcp_l hx hb hml hown (hts _ (of_decide_eq_true h1)) (hts _ f8) (hts _ f9) (hts _ f10) hK hw hS ha0 ha1 g1 g2 g3 h4.1 h4.2 (by omega) (by omega) hd (fun H1 locs1 a b => kk H1 locs1 a b rfl)
        · cases hz
      · cases hz
    · cases hz
  · cases hz
end ZCP
end
section
/-! THE SMALL MACHINE: a run of a method. f: steps, d: frames that may still come -/
abbrev zMe : Type := MethodName × ByteArray × Nat × Option FieldType × Nat × Bool
def zH (o : Nat) (ini : Bool) (d : Nat) (i : Instr) (len pc : Nat) (st : List Value) (w : zW) : Option zG := match i with
  | .getfield idx => zHget o idx len pc st w
  | .putfield idx => zHput o ini idx len pc st w
  | .iaload => zHia len pc st w
  | .baload => zHba len pc st w
  | .laload => zHla len pc st w
  | .aaload => zHaa len pc st w
  | .arraylength => zHal len pc st w
  | .iastore => zHis len pc st w
  | .bastore => zHbs len pc st w
  | .lastore => zHls len pc st w
  | .aastore => zHas len pc st w
  | .new idx => zHnew o idx len pc st w
  | .newarray t => zHna t len pc st w
  | .anewarray idx => zHnq o idx len pc st w
  | .instanceof idx => zHin o idx len pc st w
  | .checkcast idx => zHcc o idx len pc st w
  | .ldc2_w idx => zHl2 o idx len pc st w
  | .ldc_w idx => zHlw o idx len pc st w
  | .invokespecial idx => zHob o d idx len pc st w
  | .invokestatic idx => match zHmm o d idx len pc st w with
    | some g => some g
    | none => zHcp o d idx len pc st w
  | _ => none
/-- a method's end -/
def zend (ret : Option FieldType) (i : Instr) (len : Nat) (st : List Value) : Option (Option Value) := match i with
  | .ireturn => match ret, st with
    | some .int, [.int v] => if len = 1 then some (some (.int v)) else none
    | some .boolean, [.int v] => if len = 1 ∧ (v = 0 ∨ v = 1) then some (some (.int v)) else none
    | _, _ => none
  | .lreturn => match ret, st with
    | some .long, [.long v] => if len = 1 then some (some (.long v)) else none
    | _, _ => none
  | .areturn => match ret, st with
    | some (.object _), [.ref a] => if len = 1 then some (some (.ref a)) else none
    | some (.object _), [.null] => if len = 1 then some (some .null) else none
    | _, _ => none
  | .return_ => match ret, st with
    | none, [] => if len = 1 then some none else none
    | _, _ => none
  | _ => none
/-- a call: the method, its arguments, what stays on the stack -/
def zcall (o : Nat) (i : Instr) (len : Nat) (st : List Value) (w : zW) : Option (Nat × List Value × List Value) := match i with
  | .invokespecial idx => match zcl o idx with
    | some (kd, _, mj, n) => if len = 3 ∧ (kd = 0 ∨ kd = 1) ∧ zsum (st.drop (n + 1)) ≤ 8 then (match st.drop n with
      | .ref b :: r => some (mj, .ref b :: (st.take n).reverse, r)
      | _ => none) else none
    | none => none
  | .invokestatic idx => match zcl o idx with
    | some (kd, _, mj, n) => if len = 3 ∧ kd = 2 ∧ n ≤ st.length ∧ zsum (st.drop n) ≤ 8 then some (mj, (st.take n).reverse, st.drop n) else none
    | none => none
  | .invokevirtual idx => match zcl o idx with
    | some (_, _, _, n) => if len = 3 ∧ zsum (st.drop (n + 1)) ≤ 8 then (match st.drop n with
      | .ref b :: r => match w.1 b with
        | some (.inr (ci, _)) => match zclv o idx ci with
          | some (kd, _, mj, n') => if n' = n ∧ (kd = 3 ∨ kd = 4 ∨ kd = 5) then some (mj, .ref b :: (st.take n).reverse, r) else none
          | none => none
        | _ => none
      | _ => none) else none
    | none => none
  | _ => none
def zin (mL : Nat) (as : List Value) : zL := zen as ++ List.replicate (mL - (zen as).length) none
def zrun : Nat → Nat → Nat → Nat → zL → List Value → zW → Option (Option Value × zW)
  | 0, _, _, _, _, _, _ => none
  | f + 1, d, mi, pc, L, st, w => match zMt[mi]? with
    | none => none
    | some (_, b, mL, ret, o, ini) => match decode b pc with
      | .error _ => none
      | .ok (i, len) => match zend ret i len st with
        | some r => some (r, w)
        | none => match zA mL i len pc L st with
          | some (pc', L', st') => zrun f d mi pc' L' st' w
          | none => match zH o ini d i len pc st w with
            | some (pc', st', w') => zrun f d mi pc' L st' w'
            | none => match zcall o i len st w with
              | none => none
              | some (mj, as, r) => match d with
                | 0 => none
                | d' + 1 => match zMt[mj]? with
                  | none => none
                  | some (_, _, mL', _, _, _) => if (zen as).length ≤ mL' then (match zrun f d' mj 0 (zin mL' as) [] w with
                    | none => none
                    | some (v, w1) => zrun f (d' + 1) mi (pc + 3) L (v.toList ++ r) w1) else none
def zMtB (M : zMe) (q : Nat × Nat) : Bool := plainName M.1.cls && zat q.1 (Cond.code M.1 M.2.1 M.2.2.1 M.2.2.2.1) && decide (M.1.cls = zOwn M.2.2.2.2.1) && (!M.2.2.2.2.2 || decide (M.1.name = "<init>")) && decide (M.2.2.1 ≤ 30) && zat q.2 (Cond.initialized M.1.cls) && decide (M.1.cls ≠ "java/lang/invoke/MethodHandle") && decide (M.1.cls ≠ "java/lang/invoke/VarHandle")
def zMtBs (Ms : List zMe) (qs : List (Nat × Nat)) : Bool := decide (Ms.length = qs.length) && (Ms.zip qs).all (fun q => zMtB q.1 q.2)
def zCallB (e : Nat × Nat × Nat × Nat × Nat × Nat) (v : List Nat) : Bool := decide (5 < e.2.2.1) || (match zMt[e.2.2.2.2.1]? with
  | none => false
  | some (y, _, _, ret, _, _) => decide (e.2.2.2.2.1 + 1 < zMt.length) && decide ((parseMethodDescriptor y.desc).map (fun d => d.parameters.length) = some e.2.2.2.2.2) && (match e.2.2.1, v with
    | 0, [a, b] => decide (ret = none) && zat a (Cond.methodLink (zOwn e.1) e.2.1 y) && zat b (Cond.instanceMethod y) && decide (y.name = "<init>")
    | 1, [b] => decide (ret = none) && decide (e.1 = 6) && decide (e.2.1 = 11) && decide (y = yX1_init) && zat b (Cond.instanceMethod y) && decide (y.name = "<init>")
    | 2, [a, b] => zat a (Cond.methodLink (zOwn e.1) e.2.1 y) && zat b (Cond.static y)
    | 3, [a, b, q] => zat a (Cond.methodLink (zOwn e.1) e.2.1 y) && zat b (Cond.instanceMethod y) && zat q (Cond.selects (ztab e.2.2.2.1).1 y y) && decide (y.cls = (ztab e.2.2.2.1).1)
    | 4, [xc, b, a, g, q] => decide (y.cls = RX2) && zat b (Cond.instanceMethod y) && zat a (Cond.methodLink (zOwn e.1) e.2.1 ⟨zOwn xc, y.name, y.desc⟩) && zat g (Cond.sameMethod (zOwn xc) RX2 y.name y.desc) && zat q (Cond.selects (ztab e.2.2.2.1).1 ⟨zOwn xc, y.name, y.desc⟩ y)
    | 5, [b, a, g, q] => decide ((⟨RX2, y.name, y.desc⟩ : MethodName) ∈ zDecl) && zat b (Cond.instanceMethod y) && zat a (Cond.methodLink (zOwn e.1) e.2.1 ⟨RX2, y.name, y.desc⟩) && zat g (Cond.sameMethod RX2 RX2 y.name y.desc) && zat q (Cond.selects (ztab e.2.2.2.1).1 ⟨RX2, y.name, y.desc⟩ y)
    | _, _ => false))
def zCallBs (es : List (Nat × Nat × Nat × Nat × Nat × Nat)) (vs : List (List Nat)) : Bool := decide (es.length = vs.length) && (es.zip vs).all (fun q => zCallB q.1 q.2)
theorem zzip {α β : Type} {p : α → β → Bool} {l : List α} {l' : List β} (hl : l.length = l'.length) (h : (l.zip l').all (fun q => p q.1 q.2) = true) : ∀ a ∈ l, ∃ b, p a b = true := by
  intro a ha
  obtain ⟨i, hi, rfl⟩ := List.mem_iff_getElem.mp ha
  have h1 := List.all_eq_true.mp h (l[i], l'[i]'(by omega)) (by
    refine List.mem_iff_getElem.mpr ⟨i, by simp; omega, by simp⟩)
  exact ⟨_, h1⟩
set_option maxRecDepth 100000 in
theorem zMb_0 : zMtBs zMt_0 zMx_0 = true := by decide +kernel
set_option maxRecDepth 100000 in
theorem zMb_1 : zMtBs zMt_1 zMx_1 = true := by decide +kernel
set_option maxRecDepth 100000 in
theorem zMb_2 : zMtBs zMt_2 zMx_2 = true := by decide +kernel
set_option maxRecDepth 100000 in
theorem zMb_3 : zMtBs zMt_3 zMx_3 = true := by decide +kernel
set_option maxRecDepth 100000 in
theorem zMb_4 : zMtBs zMt_4 zMx_4 = true := by decide +kernel
set_option maxRecDepth 100000 in
theorem zMb_5 : zMtBs zMt_5 zMx_5 = true := by decide +kernel
set_option maxRecDepth 100000 in
theorem zMb_6 : zMtBs zMt_6 zMx_6 = true := by decide +kernel
set_option maxRecDepth 100000 in
theorem zMb_7 : zMtBs zMt_7 zMx_7 = true := by decide +kernel
set_option maxRecDepth 100000 in
theorem zMb_8 : zMtBs zMt_8 zMx_8 = true := by decide +kernel
set_option maxRecDepth 100000 in
theorem zMb_9 : zMtBs zMt_9 zMx_9 = true := by decide +kernel
set_option maxRecDepth 100000 in
theorem zMb_10 : zMtBs zMt_10 zMx_10 = true := by decide +kernel
set_option maxRecDepth 100000 in
theorem zMb_11 : zMtBs zMt_11 zMx_11 = true := by decide +kernel
set_option maxRecDepth 100000 in
theorem zMb_12 : zMtBs zMt_12 zMx_12 = true := by decide +kernel
set_option maxRecDepth 100000 in
theorem zMb_13 : zMtBs zMt_13 zMx_13 = true := by decide +kernel
set_option maxRecDepth 100000 in
theorem zMb_14 : zMtBs zMt_14 zMx_14 = true := by decide +kernel
set_option maxRecDepth 100000 in
theorem zCb_0 : zCallBs zCl_0 zCx_0 = true := by decide +kernel
set_option maxRecDepth 100000 in
theorem zCb_1 : zCallBs zCl_1 zCx_1 = true := by decide +kernel
set_option maxRecDepth 100000 in
theorem zCb_2 : zCallBs zCl_2 zCx_2 = true := by decide +kernel
set_option maxRecDepth 100000 in
theorem zCb_3 : zCallBs zCl_3 zCx_3 = true := by decide +kernel
end
section
/-! calls of the small machine -/
theorem zMk {Ms : List zMe} {qs : List (Nat × Nat)} (h : zMtBs Ms qs = true) {M : zMe} (hM : M ∈ Ms) : ∃ q, zMtB M q = true := by
  unfold zMtBs at h
  simp only [Bool.and_eq_true, decide_eq_true_eq] at h
  exact zzip h.1 h.2 M hM
theorem zCk' {es : List (Nat × Nat × Nat × Nat × Nat × Nat)} {vs : List (List Nat)} (h : zCallBs es vs = true) {e : Nat × Nat × Nat × Nat × Nat × Nat} (he : e ∈ es) : ∃ v, zCallB e v = true := by
  unfold zCallBs at h
  simp only [Bool.and_eq_true, decide_eq_true_eq] at h
  exact zzip h.1 h.2 e he
theorem zM_fact0 {M : zMe} (hm : M ∈ zMt0) : ∃ q, zMtB M q = true := by
  simp only [zMt0, List.mem_append] at hm
  rcases hm with h | h | h | h | h | h | h | h | h | h | h | h | h | h | h
  · exact zMk zMb_0 h
  · exact zMk zMb_1 h
  · exact zMk zMb_2 h
  · exact zMk zMb_3 h
  · exact zMk zMb_4 h
  · exact zMk zMb_5 h
  · exact zMk zMb_6 h
  · exact zMk zMb_7 h
  · exact zMk zMb_8 h
  · exact zMk zMb_9 h
  · exact zMk zMb_10 h
  · exact zMk zMb_11 h
  · exact zMk zMb_12 h
  · exact zMk zMb_13 h
  · exact zMk zMb_14 h
theorem zC_fact {e : Nat × Nat × Nat × Nat × Nat × Nat} (he : e ∈ zCl) : ∃ v, zCallB e v = true := by
  simp only [zCl, List.mem_append] at he
  rcases he with h | h | h | h
  · exact zCk' zCb_0 h
  · exact zCk' zCb_1 h
  · exact zCk' zCb_2 h
  · exact zCk' zCb_3 h
theorem zM_fact {mi : Nat} {M : zMe} (h : zMt[mi]? = some M) (hlt : mi + 1 < zMt.length) : plainName M.1.cls = true ∧ Cond.code M.1 M.2.1 M.2.2.1 M.2.2.2.1 ∈ zT ∧ M.1.cls = zOwn M.2.2.2.2.1 ∧ (M.2.2.2.2.2 = true → M.1.name = "<init>") ∧ M.2.2.1 ≤ 30 ∧ Cond.initialized M.1.cls ∈ zT ∧ M.1.cls ≠ "java/lang/invoke/MethodHandle" ∧ M.1.cls ≠ "java/lang/invoke/VarHandle" := by
  have hm : M ∈ zMt0 := by
    have h1 : mi < zMt0.length := by
      unfold zMt at hlt
      rw [List.length_append] at hlt
      simp only [List.length_cons, List.length_nil] at hlt
      omega
    unfold zMt at h
    rw [List.getElem?_append_left h1] at h
    exact List.mem_of_getElem? h
  obtain ⟨q, hq⟩ := zM_fact0 hm
  unfold zMtB at hq
  simp only [Bool.and_eq_true, Bool.or_eq_true, Bool.not_eq_true', decide_eq_true_eq] at hq
  obtain ⟨⟨⟨⟨⟨⟨⟨h1, h2⟩, h3⟩, h4⟩, h5⟩, h6⟩, h7⟩, h8⟩ := hq
  exact ⟨h1, zat_in h2, h3, fun hi => by rcases h4 with h | h; · rw [hi] at h; cases h
                                         · exact h, h5, zat_in h6, h7, h8⟩
theorem zK.warm {Y : zY} {s U : State} (hW : s.WarmedH U.vm) (h : zK Y s) : zK Y U := by
  obtain ⟨h1, h2, h3, h4, h5, h6, h7, h8, h9, h10⟩ := h
  exact ⟨va_K.moved hW.alike h1, h2, va_AO.moved hW.alike h3, va_AO.moved hW.alike h4, va_Nw.warmC hW h5, va_Nw.warmC hW h6, va_Nw.warmC hW h7, va_Nc.moved hW.alike h8, fun x hx => va_Nw.warmD hW (h9 x hx), va_Nw.warmM hW h10⟩
theorem zK.same {Y : zY} {s U : State} (hv : s.vm = U.vm) (h : zK Y s) : zK Y U := by
  obtain ⟨h1, h2, h3, h4, h5, h6, h7, h8, h9, h10⟩ := h
  have ha : s.vm.Alike U.vm := by rw [hv]; exact Vm.Alike.refl _
  exact ⟨va_K.moved ha h1, h2, va_AO.moved ha h3, va_AO.moved ha h4, va_Nw.same rfl hv h5, va_Nw.same rfl hv h6, va_Nw.same rfl hv h7, va_Nc.moved ha h8, fun x hx => va_Nw.same rfl hv (h9 x hx), va_Nw.same rfl hv h10⟩
theorem zw.moved {Y : zY} {z0 : Nat} {s U : State} {H : Heap} {w : zW} (ha : s.vm.Alike U.vm) (h : zw Y z0 s H w) : zw Y z0 U H w := by
  obtain ⟨h1, ws, hP, hD, hA⟩ := h
  refine ⟨h1, ws, hP, hD, fun a e he => ?_⟩
  rcases hA a e he with h | ⟨L, xs, h2, h3, h4⟩
  · exact Or.inl h
  · exact Or.inr ⟨L, xs, h2, h3, h4.moved ha⟩
def zPc (Y : zY) (z0 : Nat) (w : zW) (As : List Value) : Array Value → State → Prop := va_Pc As (fun U => zw Y z0 U U.heap w ∧ zK Y U ∧ z0 ≤ U.heap.size)
def zQ (Y : zY) (z0 : Nat) (r : Option Value) (w' : zW) : Array Value → State → Outcome → State → Prop := fun _ st oc t => oc = .returned r ∧ zw Y z0 t t.heap w' ∧ va_F (fun q => z0 ≤ q) st t
theorem zPc_blind {Y : zY} {z0 : Nat} {w : zW} {As : List Value} : FrameBlind (zPc Y z0 w As) := by
  rintro a U g mk ⟨h1, h2, h3, h4⟩
  exact ⟨h1, zw.moved (s := U) (U := U.calling g mk a) (Vm.Alike.refl U.vm) h2, zK.same (s := U) (U := U.calling g mk a) rfl h3, h4⟩
def zCtx (p : Program) (s : State) (m : MethodId) (args : Array Value) (meth : Method) (c : Code) (Y : zY) (z0 : Nat) (M : zMe) : Prop := p.tables.exec = Jvm.exec ∧ c.code = M.2.1 ∧ c.maxLocals = M.2.2.1 ∧ meth.sig.returnType = M.2.2.2.1 ∧ meth.locks = false ∧ (∀ w ∈ zT, w.before args s = true) ∧ s.vm.findClass (zOwn M.2.2.2.2.1) = some m.cls ∧ (M.2.2.2.2.2 = true → meth.name = "<init>") ∧ zK Y s ∧ z0 ≤ s.heap.size
theorem zgood {w0 : Cond} (h : w0 ∈ zT) : GoodIn zT (w0 :: zT) := fun w hw => by
  rcases List.mem_cons.mp hw with rfl | h'
  · exact ⟨h, good_of_word (zT_good h)⟩
  · exact ⟨h', good_of_word (zT_good h')⟩
theorem zgoodA {l : List Cond} (h : ∀ w ∈ l, w ∈ zT) {w0 : Cond} (h0 : w0 ∈ zT) : GoodIn zT (l ++ (w0 :: zT)) := fun w hw => by
  rcases List.mem_append.mp hw with h' | h'
  · exact ⟨h w h', good_of_word (zT_good (h w h'))⟩
  · exact zgood h0 w h'
theorem zdrop {st r : List Value} {n : Nat} {v : Value} (h : st.drop n = v :: r) : st = st.take n ++ v :: r ∧ st.drop (n + 1) = r ∧ (st.take n).length = n := by
  refine ⟨by rw [← h, List.take_append_drop], ?_, ?_⟩
  · rw [← List.drop_drop, h]
    rfl
  · have hlen : (st.drop n).length = r.length + 1 := by rw [h]; rfl
    rw [List.length_drop] at hlen
    rw [List.length_take]
    omega
section ZCA
variable {p : Program} {l : Launch} {e : Env} {R : Room} {s : State} {m : MethodId} {args : Array Value} {below : List Frame} {meth : Method} {c : Code} {H : Heap} {locs : List Loc} {cells slots : Nat} {Q : State → Prop}
variable {pc len : Nat} {ls : Array Slot} {st : List Value} {Y : zY} {z0 : Nat} {w : zW} {M M' : zMe} {i : Instr} {mj : Nat} {as r : List Value} {rm : Room} {mc ms : Nat} {Qc : Array Value → State → Outcome → State → Prop} {free : Addr → Prop}
set_option maxRecDepth 100000 in
set_option maxHeartbeats 4000000 in
theorem zcall_run (C : zCtx p s m args meth c Y z0 M) (hz : zcall M.2.2.2.2.1 i len st w = some (mj, as, r)) (hd : decode M.2.1 pc = .ok (i, len)) (hM' : zMt[mj]? = some M')
    (hMet : mj + 1 < zMt.length → Met l M'.1 (Cond.code M'.1 M'.2.1 M'.2.2.1 M'.2.2.2.1 :: zT) rm (zPc Y z0 w as) Qc mc ms free) (hrc : rm.cells = mc) (hrs : rm.slots = ms) (hfr : rm.frames + 1 ≤ R.frames) (hlo : rm.locals + 60 ≤ R.locals)
    (hw : zw Y z0 s H w) (hS : va_S (fun q => z0 ≤ q) s.heap H locs) (hsz : ls.size = M.2.2.1) (hf : cells + mc ≤ R.cells ∧ slots + ms ≤ R.slots) :
    len = 3 ∧ va_Run p l e R s m args below meth c H locs cells slots mc ms (F0 m pc ls st) r (Qc as.toArray) free := by
  obtain ⟨hx, hb, hml, hr0, hlk, hts, hown, hini, hKz, hz0⟩ := C
  have hsize : (F0 m pc ls st).locals.size = M.2.2.1 := hsz
  have S : CallFix p m c M.2.1 M.2.2.1 s args zT (zOwn M.2.2.2.2.1) := ⟨hx, hb, hml, hown, hts⟩
  have hpre : ∀ U : State, U.heap = H → s.WarmedH U.vm → zPc Y z0 w as as.toArray U := fun U hU hW => ⟨rfl, by rw [hU]; exact hw.moved hW.alike, hKz.warm hW, by rw [hU]; exact Nat.le_trans hz0 hS.1⟩
  cases i <;> simp only [zcall, reduceCtorEq] at hz
  case invokespecial idx =>
    split at hz
    · rename_i kd _ mj' n hcl
      split at hz
      · rename_i hc
        obtain ⟨rfl, hkd, hr8⟩ := hc
        split at hz
        · rename_i b rr hdr
          simp only [Option.some.injEq, Prod.mk.injEq] at hz
          obtain ⟨rfl, rfl, rfl⟩ := hz
          obtain ⟨hst, hdr1, hln⟩ := zdrop hdr
          rw [hdr1] at hr8
          obtain ⟨v, hv⟩ := zC_fact (zcl_inv hcl)
          unfold zCallB at hv
          rw [hM'] at hv
          obtain ⟨y, bb, mL', ret', o', ini'⟩ := M'
          rcases hkd with rfl | rfl
          · match v, hv with
            | [], hv => simp at hv
            | [_], hv => simp at hv
            | [a1, a2], hv =>
              simp only [Nat.not_lt_zero, decide_false, Bool.false_or, Bool.and_eq_true, decide_eq_true_eq] at hv
              obtain ⟨⟨hlt, hpar⟩, ⟨⟨hret, g1⟩, g2⟩, g3⟩ := hv
              subst hret
              obtain ⟨f1, f2, f3, f4, f5, f6, f7, f8⟩ := zM_fact hM' hlt
              dsimp only at f2 f6 f7 f8 f5 hMet
              refine ⟨rfl, va_runI (As := (st.take n).reverse) (rest := rr) S (hMet hlt) (cwI n hts (zgood f2) rfl hrc hrs (hts _ f6) (hts _ (zat_in g1)) (hts _ (zat_in g2)) g3 ⟨f7, f8, hpar⟩ ⟨hfr, by omega⟩) ⟨zPc_blind, hpre⟩ rfl (by rw [List.length_reverse]; exact hln) hsize (by rw [List.reverse_reverse]; exact hst) (lv_room hr8) hd hf⟩
            | _ :: _ :: _ :: _, hv => simp at hv
          · match v, hv with
            | [], hv => simp at hv
            | [a1], hv =>
              simp only [Nat.reduceLT, decide_false, Bool.false_or, Bool.and_eq_true, decide_eq_true_eq] at hv
              obtain ⟨⟨hlt, hpar⟩, ⟨⟨⟨⟨hret, g1⟩, g2⟩, g3⟩, g4⟩, g5⟩ := hv
              subst hret
              subst g2
              obtain ⟨f1, f2, f3, f4, f5, f6, f7, f8⟩ := zM_fact hM' hlt
              dsimp only at f2 f6 f7 f8 f5 hMet
              have hnest : va_Nw (.methodLinkNest (zOwn M.2.2.2.2.1) 11 y RX6) s := by
                rw [g1, g3]
                exact hKz.2.2.2.2.2.2.2.2.2
              refine ⟨rfl, va_runIN (As := (st.take n).reverse) (rest := rr) (host := RX6) S (hMet hlt) ⟨va_cnB n hts (zgood f2) rfl hrc hrs hnest (hts _ f6) ⟨f7, f8, hpar⟩ ⟨hfr, by omega⟩, g5, hts _ (zat_in g4)⟩ ⟨zPc_blind, hpre⟩ rfl (by rw [List.length_reverse]; exact hln) hsize (by rw [List.reverse_reverse]; exact hst) (lv_room hr8) hd hf⟩
            | _ :: _ :: _, hv => simp at hv
        · cases hz
      · cases hz
    · cases hz
  case invokestatic idx =>
    split at hz
    · rename_i kd _ mj' n hcl
      split at hz
      · rename_i hc
        obtain ⟨rfl, rfl, hle, hr8⟩ := hc
        simp only [Option.some.injEq, Prod.mk.injEq] at hz
        obtain ⟨rfl, rfl, rfl⟩ := hz
        obtain ⟨v, hv⟩ := zC_fact (zcl_inv hcl)
        unfold zCallB at hv
        rw [hM'] at hv
        obtain ⟨y, bb, mL', ret', o', ini'⟩ := M'
        match v, hv with
        | [], hv => simp at hv
        | [_], hv => simp at hv
        | [a1, a2], hv =>
          simp only [Nat.reduceLT, decide_false, Bool.false_or, Bool.and_eq_true, decide_eq_true_eq] at hv
          obtain ⟨⟨hlt, hpar⟩, g1, g2⟩ := hv
          obtain ⟨f1, f2, f3, f4, f5, f6, f7, f8⟩ := zM_fact hM' hlt
          dsimp only at f2 f6 f7 f8 f5 hMet
          refine ⟨rfl, va_runS (As := (st.take n).reverse) (rest := st.drop n) S (hMet hlt) ⟨callB_of n hts (zgood f2) rfl hrc hrs (hts _ f6) (hts _ (zat_in g1)) ⟨f7, f8, hpar⟩ ⟨hfr, by omega⟩, hts _ (zat_in g2)⟩ ⟨zPc_blind, hpre⟩ rfl (by rw [List.length_reverse, List.length_take]; omega) hsize (by rw [List.reverse_reverse, List.take_append_drop]) (lv_room hr8) hd hf⟩
        | _ :: _ :: _ :: _, hv => simp at hv
      · cases hz
    · cases hz
  case invokevirtual idx =>
    split at hz
    · rename_i _ _ _ n hcl0
      split at hz
      · rename_i hc
        obtain ⟨rfl, hr8⟩ := hc
        split at hz
        · rename_i b rr hdr
          split at hz
          · rename_i ci fs hbo
            split at hz
            · rename_i kd ci' mj' n' hcl
              split at hz
              · rename_i hc2
                obtain ⟨rfl, hkd⟩ := hc2
                simp only [Option.some.injEq, Prod.mk.injEq] at hz
                obtain ⟨rfl, rfl, rfl⟩ := hz
                obtain ⟨hst, hdr1, hln⟩ := zdrop hdr
                rw [hdr1] at hr8
                obtain ⟨hci6, hrecv⟩ := zrecv hKz.1 hw hbo
                obtain ⟨hmem, hce⟩ := zclv_inv hcl
                dsimp only at hce
                subst hce
                obtain ⟨v, hv⟩ := zC_fact hmem
                unfold zCallB at hv
                rw [hM'] at hv
                obtain ⟨y, bb, mL', ret', o', ini'⟩ := M'
                rcases hkd with rfl | rfl | rfl
                · match v, hv with
                  | [], hv => simp at hv
                  | [_], hv => simp at hv
                  | [_, _], hv => simp at hv
                  | [a1, a2, a3], hv =>
                    simp only [Nat.reduceLT, decide_false, Bool.false_or, Bool.and_eq_true, decide_eq_true_eq] at hv
                    obtain ⟨⟨hlt, hpar⟩, ⟨⟨g1, g2⟩, g3⟩, g4⟩ := hv
                    obtain ⟨f1, f2, f3, f4, f5, f6, f7, f8⟩ := zM_fact hM' hlt
                    dsimp only at f2 f6 f7 f8 f5 hMet
                    have hT : GoodIn zT (wsV (zOwn M.2.2.2.2.1) idx y.cls y (Cond.code y bb mL' ret' :: zT)) := by
                      unfold wsV
                      refine zgoodA (fun w hw => ?_) f2
                      simp only [List.mem_cons, List.not_mem_nil, or_false] at hw
                      rcases hw with rfl | rfl | rfl | rfl
                      · exact zat_in g1
                      · exact zat_in g2
                      · rw [g4]; exact zat_in g3
                      · exact f6
                    rw [← g4] at hrecv
                    refine ⟨rfl, va_runV (As := (st.take n').reverse) (rest := rr) S (hMet hlt) (cwV n' hts hT rfl hrc hrs ⟨rfl, f7, f8, hpar⟩ ⟨hfr, by omega⟩) ⟨zPc_blind, hrecv, hpre⟩ rfl (by rw [List.length_reverse]; exact hln) hsize (by rw [List.reverse_reverse]; exact hst) (lv_room hr8) hd hf⟩
                  | _ :: _ :: _ :: _ :: _, hv => simp at hv
                · match v, hv with
                  | [], hv => simp at hv
                  | [_], hv => simp at hv
                  | [_, _], hv => simp at hv
                  | [_, _, _], hv => simp at hv
                  | [_, _, _, _], hv => simp at hv
                  | [xc, a2, a1, a3, a4], hv =>
                    simp only [Nat.reduceLT, decide_false, Bool.false_or, Bool.and_eq_true, decide_eq_true_eq] at hv
                    obtain ⟨⟨hlt, hpar⟩, ⟨⟨⟨g1, g2⟩, g3⟩, g4⟩, g5⟩ := hv
                    obtain ⟨f1, f2, f3, f4, f5, f6, f7, f8⟩ := zM_fact hM' hlt
                    dsimp only at f2 f6 f7 f8 f5 hMet
                    have hT : GoodIn zT (va_wsU (zOwn M.2.2.2.2.1) idx (ztab ci').1 RX2 ⟨zOwn xc, y.name, y.desc⟩ y (Cond.code y bb mL' ret' :: zT)) := by
                      unfold va_wsU
                      refine zgoodA (fun w hw => ?_) f2
                      simp only [List.mem_cons, List.not_mem_nil, or_false] at hw
                      rcases hw with rfl | rfl | rfl | rfl | rfl
                      · exact zat_in g3
                      · exact zat_in g4
                      · exact zat_in g5
                      · exact zat_in g2
                      · exact f6
                    refine ⟨rfl, va_runU (As := (st.take n').reverse) (rest := rr) S (hMet hlt) (va_cwU n' hts hT rfl hrc hrs (by rw [← g1]) ⟨by decide, by decide, hpar⟩ ⟨hfr, by omega⟩) ⟨zPc_blind, hrecv, hpre⟩ rfl (by rw [List.length_reverse]; exact hln) hsize (by rw [List.reverse_reverse]; exact hst) (lv_room hr8) hd hf⟩
                  | _ :: _ :: _ :: _ :: _ :: _ :: _, hv => simp at hv
                · match v, hv with
                  | [], hv => simp at hv
                  | [_], hv => simp at hv
                  | [_, _], hv => simp at hv
                  | [_, _, _], hv => simp at hv
                  | [a2, a1, a3, a4], hv =>
                    simp only [Nat.reduceLT, decide_false, Bool.false_or, Bool.and_eq_true, decide_eq_true_eq] at hv
                    obtain ⟨⟨hlt, hpar⟩, ⟨⟨⟨g1, g2⟩, g3⟩, g4⟩, g5⟩ := hv
                    obtain ⟨f1, f2, f3, f4, f5, f6, f7, f8⟩ := zM_fact hM' hlt
                    dsimp only at f2 f6 f7 f8 f5 hMet
                    have hT : GoodIn zT (va_wsU (zOwn M.2.2.2.2.1) idx (ztab ci').1 RX2 ⟨RX2, y.name, y.desc⟩ y (Cond.code y bb mL' ret' :: zT)) := by
                      unfold va_wsU
                      refine zgoodA (fun w hw => ?_) f2
                      simp only [List.mem_cons, List.not_mem_nil, or_false] at hw
                      rcases hw with rfl | rfl | rfl | rfl | rfl
                      · exact zat_in g3
                      · exact zat_in g4
                      · exact zat_in g5
                      · exact zat_in g2
                      · exact f6
                    refine ⟨rfl, va_runU (As := (st.take n').reverse) (rest := rr) S (hMet hlt) (va_cwA n' hts hT rfl hrc hrs (hKz.2.2.2.2.2.2.2.2.1 _ g1) ⟨by decide, by decide, hpar⟩ ⟨hfr, by omega⟩) ⟨zPc_blind, hrecv, hpre⟩ rfl (by rw [List.length_reverse]; exact hln) hsize (by rw [List.reverse_reverse]; exact hst) (lv_room hr8) hd hf⟩
                  | _ :: _ :: _ :: _ :: _ :: _, hv => simp at hv
              · cases hz
            · cases hz
          · cases hz
        · cases hz
      · cases hz
    · cases hz
end ZCA
end
section
/-! THE SMALL MACHINE IS SOUND: where it comes to an end, the machine does, with the same answer and the same heap -/
theorem zend_len {ret : Option FieldType} {i : Instr} {len : Nat} {st : List Value} {r : Option Value} (h : zend ret i len st = some r) : len = 1 := by
  cases i <;> simp only [zend, reduceCtorEq] at h
  all_goals (split at h <;> first | (split at h <;> first | (rename_i hc; first | exact hc | exact hc.1) | cases h) | cases h)
def zle (w w' : zW) : Prop := w.2.1 ≤ w'.2.1 ∧ w.2.2 ≤ w'.2.2
theorem zle.refl (w : zW) : zle w w := ⟨Nat.le_refl _, Nat.le_refl _⟩
theorem zle.trans {a b c : zW} (h : zle a b) (h' : zle b c) : zle a c := ⟨Nat.le_trans h.1 h'.1, Nat.le_trans h.2 h'.2⟩
section ZS
variable {p : Program} {l : Launch} {e : Env} {R : Room} {s : State} {m : MethodId} {args : Array Value} {below : List Frame} {meth : Method} {c : Code} {H : Heap} {locs : List Loc} {cells slots : Nat} {Q : State → Prop}
variable {pc len d : Nat} {ls : Array Slot} {st st' : List Value} {pc' : Nat} {Y : zY} {z0 : Nat} {w w1 : zW} {M : zMe} {i : Instr}
theorem zH_le {o : Nat} {ini : Bool} (hz : zH o ini d i len pc st w = some (pc', st', w1)) : zle w w1 := by
  unfold zH at hz
  split at hz
  case h_20 =>
    split at hz
    · rename_i g hg
      cases hz
      simp only [zHmm] at hg
      repeat' split at hg
      all_goals first | (cases hg; done) | (simp only [Option.some.injEq, Prod.mk.injEq] at hg; obtain ⟨-, -, rfl⟩ := hg; exact zle.refl _)
    · simp only [zHcp] at hz
      repeat' split at hz
      all_goals first | (cases hz; done) | (simp only [Option.some.injEq, Prod.mk.injEq] at hz; obtain ⟨-, -, rfl⟩ := hz; exact ⟨Nat.le_refl _, Nat.le_refl _⟩)
  all_goals (try simp only [zHget, zHput, zHia, zHba, zHla, zHaa, zHal, zHis, zHbs, zHls, zHas, zHnew, zHna, zHnq, zHin, zHcc, zHl2, zHlw, zHob] at hz)
  all_goals (repeat' split at hz)
  all_goals first | (cases hz; done) | (simp only [Option.some.injEq, Prod.mk.injEq] at hz; obtain ⟨-, -, rfl⟩ := hz; first | exact zle.refl _ | exact ⟨Nat.le_refl _, Nat.le_refl _⟩ | exact ⟨Nat.le_add_right _ _, Nat.le_add_right _ _⟩)
theorem zH_ok {nL : Nat} (C : zCtx p s m args meth c Y z0 M) (hz : zH M.2.2.2.2.1 M.2.2.2.2.2 d i len pc st w = some (pc', st', w1)) (hd : decode M.2.1 pc = .ok (i, len)) (hw : zw Y z0 s H w) (hS : va_S (fun q => z0 ≤ q) s.heap H locs) (hsz : ls.size = M.2.2.1) (hfr : d ≤ R.frames) (hlo : 60 * d ≤ R.locals) (hce : cells + (w1.2.1 - w.2.1) ≤ R.cells) (hsl : slots + (w1.2.2 - w.2.2) ≤ R.slots)
    (kk : ∀ (H1 : Heap) (locs1 : List Loc), zw Y z0 s H1 w1 → va_S (fun q => z0 ≤ q) s.heap H1 locs1 → W p l e R s m args below meth c H1 locs1 (cells + (w1.2.1 - w.2.1)) (slots + (w1.2.2 - w.2.2)) Q (F0 m pc' ls st')) : W p l e R s m args below meth c H locs cells slots Q (F0 m pc ls st) := by
  obtain ⟨hx, hb, hml, hr0, hlk, hts, hown, hini, hKz, hz0⟩ := C
  have hml' : c.maxLocals = ls.size := hml.trans hsz.symm
  have k1 : ∀ (H1 : Heap) (locs1 : List Loc), zw Y z0 s H1 w1 → va_S (fun q => z0 ≤ q) s.heap H1 locs1 → w1.2 = w.2 → W p l e R s m args below meth c H1 locs1 cells slots Q (F0 m pc' ls st') := by
    intro H1 locs1 h1 h2 h3
    have := kk H1 locs1 h1 h2
    rw [h3, Nat.sub_self, Nat.sub_self] at this
    exact this
  have k0 : w1 = w → W p l e R s m args below meth c H locs cells slots Q (F0 m pc' ls st') := fun h => k1 H locs (by rw [h]; exact hw) hS (by rw [h])
  cases i <;> simp only [zH, reduceCtorEq] at hz
  case getfield idx => exact zHget_ok hx hb hts hown hKz.1 hz hd hw k0
  case putfield idx => exact zHput_ok hx hb hts hown hini hKz.1 hz hd hw hS k1
  case iaload => exact zHia_ok hx hb hKz.1 hz hd hw k0 hKz.2.1
  case baload => exact zHba_ok hx hb hKz.1 hz hd hw k0
  case laload => exact zHla_ok hx hb hKz.1 hz hd hw k0
  case aaload => exact zHaa_ok hx hb hKz.1 hz hd hw k0
  case arraylength => exact zHal_ok hx hb hKz.1 hz hd hw k0 hKz.2.1
  case iastore => exact zHis_ok hx hb hKz.1 hz hd hw hS k1
  case bastore => exact zHbs_ok hx hb hKz.1 hz hd hw hS k1
  case lastore => exact zHls_ok hx hb hKz.1 hz hd hw hS k1
  case aastore => exact zHas_ok hx hb hKz hz hd hw hS k1
  case new idx => exact zHnew_ok hx hb hts hown hKz.1 hz hd hw hz0 hS hce hsl kk
  case newarray t => exact zHna_ok hx hb hts hKz.1 hz hd hw hz0 hS hce hsl kk
  case anewarray idx => exact zHnq_ok hx hb hts hown hKz hz hd hw hz0 hS hce hsl kk
  case instanceof idx => exact zHin_ok hx hb hts hown hKz hz hd hw k0
  case checkcast idx => exact zHcc_ok hx hb hts hown hKz hz hd hw k0
  case ldc2_w idx => exact zHl2_ok hx hb hts hown hz hd k0
  case ldc_w idx => exact zHlw_ok hx hb hts hown hz hd k0
  case invokespecial idx => exact zHob_ok hx hb hml' hts hown hz hd hfr hlo k0
  case invokestatic idx =>
    split at hz
    · rename_i g hg
      cases hz
      exact zHmm_ok hx hb hml' hts hown hg hd hfr hlo (by omega) (by omega) k0
    · exact zHcp_ok hx hb hml' hts hown hKz.1 hz hd hw hS hfr hlo k1
theorem z_call {mc ms : Nat} {a : Array Value} {rest st0 : List Value} {v : Option Value} (hr : va_Run p l e R s m args below meth c H locs cells slots mc ms (F0 m pc ls st0) rest (zQ Y z0 v w1 a) (fun q => z0 ≤ q)) (hS : va_S (fun q => z0 ≤ q) s.heap H locs)
    (kk : ∀ (H1 : Heap) (locs1 : List Loc), zw Y z0 s H1 w1 → va_S (fun q => z0 ≤ q) s.heap H1 locs1 → W p l e R s m args below meth c H1 locs1 (cells + mc) (slots + ms) Q (F0 m (pc + 3) ls (v.toList ++ rest))) : W p l e R s m args below meth c H locs cells slots Q (F0 m pc ls st0) := by
  intro T hT X
  obtain ⟨v', st₀, t, T', L, h0, X', hL, e1, e2, ⟨hv, hw1, hz, hk⟩, st⟩ := hr T hT X
  cases hv
  rw [h0] at hz hk
  obtain ⟨t2, a1, b1⟩ := kk T'.heap (locs ++ L) (by rw [e1]; exact hw1.moved (by rw [← e2]; exact X'.warmed.alike.symm))
    ⟨Nat.le_trans hS.1 (by rw [e1]; exact hz), fun q h1 h2 => by rw [e1, hk q (Nat.lt_of_lt_of_le h1 hS.1) h2]; exact hS.2.1 q h1 h2, fun q hq => by
      rcases List.mem_append.mp hq with h | h
      · exact hS.2.2 q h
      · exact hL q h⟩ T' rfl X'
  exact ⟨t2, st t2 a1, b1⟩
end ZS
theorem zen_args : ∀ (vs : List Value) (k j : Nat), ∀ q ∈ zas k (zen vs ++ List.replicate j none), q ∈ lv_args k vs
  | [], k, j => by
    intro q hq
    simp only [zen, List.nil_append] at hq
    obtain ⟨i, v⟩ := q
    have h := ((zas_mem _ _ _ _).mp hq).2
    unfold zget at h
    rw [List.getElem?_replicate] at h
    split at h <;> simp at h
  | v :: vs, k, j => by
    intro q hq
    unfold zen at hq
    split at hq
    · rename_i hc
      simp only [List.cons_append, zas, List.mem_cons] at hq
      simp only [lv_args, hc, if_true, List.mem_cons]
      rcases hq with h | h
      · exact Or.inl h
      · exact Or.inr (zen_args vs (k + 2) j q h)
    · rename_i hc
      simp only [List.cons_append, zas, List.mem_cons] at hq
      simp only [lv_args, hc, if_false, List.mem_cons]
      rcases hq with h | h
      · exact Or.inl h
      · exact Or.inr (zen_args vs (k + 1) j q h)
theorem zen_len : ∀ vs : List Value, (zen vs).length = (lg_sl vs).length
  | [] => rfl
  | v :: vs => by
    have ih := zen_len vs
    unfold zen lg_sl
    rw [List.flatMap_cons, List.length_append]
    unfold lg_sl at ih
    split
    · simp [ih]; omega
    · simp [ih]; omega
theorem zR_entry {vs : List Value} {n : Nat} (h : (zen vs).length ≤ n) : zR ((lg_sl vs ++ List.replicate (n - (lg_sl vs).length) Slot.unset).toArray) n (zin n vs) := by
  rw [zen_len] at h
  exact lv_more (lv_entry vs h) (fun q hq => zen_args vs 0 _ q hq)
end
section
/-! the main theorem of the small machine -/
theorem zrun_le : ∀ (f d mi pc : Nat) (L : zL) (st : List Value) (w : zW) (r : Option Value) (w' : zW), zrun f d mi pc L st w = some (r, w') → zle w w'
  | 0, d, mi, pc, L, st, w, r, w', h => by simp [zrun] at h
  | f + 1, d, mi, pc, L, st, w, r, w', h => by
    unfold zrun at h
    split at h
    · cases h
    · split at h
      · cases h
      · split at h
        · simp only [Option.some.injEq, Prod.mk.injEq] at h
          obtain ⟨-, rfl⟩ := h
          exact zle.refl _
        · split at h
          · exact zrun_le f _ _ _ _ _ _ _ _ h
          · split at h
            · rename_i hz
              exact (zH_le hz).trans (zrun_le f _ _ _ _ _ _ _ _ h)
            · split at h
              · cases h
              · split at h
                · cases h
                · split at h
                  · cases h
                  · split at h
                    · split at h
                      · cases h
                      · rename_i hz
                        exact (zrun_le f _ _ _ _ _ _ _ _ hz).trans (zrun_le f _ _ _ _ _ _ _ _ h)
                    · cases h
/-- from any point of a method's run -/
def zGoal (Y : zY) (z0 : Nat) (l : Launch) (f : Nat) : Prop := ∀ (d mi pc : Nat) (L : zL) (st : List Value) (w : zW) (r : Option Value) (w' : zW) (M : zMe), zMt[mi]? = some M → zrun f d mi pc L st w = some (r, w') →
  ∀ (p : Program) (e : Env) (R : Room) (s : State) (m : MethodId) (args : Array Value) (below : List Frame) (meth : Method) (c : Code) (H : Heap) (locs : List Loc) (cells slots : Nat) (Q : State → Prop) (ls : Array Slot), zCtx p s m args meth c Y z0 M → zw Y z0 s H w → va_S (fun q => z0 ≤ q) s.heap H locs → zR ls M.2.2.1 L → d ≤ R.frames → 60 * d ≤ R.locals → cells + (w'.2.1 - w.2.1) ≤ R.cells → slots + (w'.2.2 - w.2.2) ≤ R.slots →
  (∀ (H1 : Heap) (locs1 : List Loc) (pc1 : Nat) (ls1 : Array Slot) (st1 : List Value) (i : Instr), decode M.2.1 pc1 = .ok (i, 1) → zend M.2.2.2.1 i 1 st1 = some r → zw Y z0 s H1 w' → va_S (fun q => z0 ≤ q) s.heap H1 locs1 → W p l e R s m args below meth c H1 locs1 (cells + (w'.2.1 - w.2.1)) (slots + (w'.2.2 - w.2.2)) Q (F0 m pc1 ls1 st1)) →
  W p l e R s m args below meth c H locs cells slots Q (F0 m pc ls st)
/-- a method as a contract -/
theorem z_met {Y : zY} {z0 : Nat} {l : Launch} {f : Nat} (ih : zGoal Y z0 l f) {d mj : Nat} {as : List Value} {w w1 : zW} {v : Option Value} {M : zMe} (hM : zMt[mj]? = some M) (hlt : mj + 1 < zMt.length) (hen : (zen as).length ≤ M.2.2.1) (hz : zrun f d mj 0 (zin M.2.2.1 as) [] w = some (v, w1)) :
    Met l M.1 (Cond.code M.1 M.2.1 M.2.2.1 M.2.2.2.1 :: zT) { frames := d, cells := w1.2.1 - w.2.1, slots := w1.2.2 - w.2.2, locals := 60 * d } (zPc Y z0 w as) (zQ Y z0 v w1) (w1.2.1 - w.2.1) (w1.2.2 - w.2.2) (fun q => z0 ≤ q) := by
  obtain ⟨f1, f2, f3, f4, f5, f6, f7, f8⟩ := zM_fact hM hlt
  refine Met.ofW (cc := M.2.1) (maxL := M.2.2.1) (ret := M.2.2.2.1) f1 rfl ?_
  intro p e s m args below meth c s₁ B hml hv
  obtain ⟨rfl, hw, hK, h0⟩ := hv
  have hts := atoms_spec (ws := Cond.code M.1 M.2.1 M.2.2.1 M.2.2.2.1 :: zT) B.pre
  have hown : s.vm.findClass M.1.cls = some m.cls := findClass_of_methodNamed B.named
  have hlocks := B.notSynchronized
  have hr := B.returns
  have hS : va_S (fun q => z0 ≤ q) s.heap s.heap [] := va_S.rf
  rw [lg_entry_eq]
  refine ih d mj 0 (zin M.2.2.1 as) [] w v w1 M hM hz p e _ s m _ below meth c s.heap [] 0 0 _ _ ⟨B.exec, B.bytes, hml, hr, hlocks, fun w hw => hts w (List.mem_cons_of_mem _ hw), by rw [← f3]; exact hown, fun hi => by
    rw [(name_of_methodNamed B.named B.method).1]; exact f4 hi, hK, h0⟩ hw hS (zR_entry hen) (Nat.le_refl _) (Nat.le_refl _) (by show 0 + (w1.2.1 - w.2.1) ≤ w1.2.1 - w.2.1; omega) (by show 0 + (w1.2.2 - w.2.2) ≤ w1.2.2 - w.2.2; omega) ?_
  intro H1 locs1 pc1 ls1 st1 i hd hend hw1 hS1
  rw [Nat.zero_add, Nat.zero_add]
  have fin : ∀ t : State, t.heap = H1 → s.WarmedH t.vm → zQ Y z0 v w1 as.toArray s (.returned v) t := fun t ht hW => ⟨rfl, by rw [ht]; exact hw1.moved hW.alike, hS1.F ht⟩
  cases i <;> simp only [zend, reduceCtorEq] at hend
  case ireturn =>
    split at hend
    · rename_i hret
      simp only [if_true, Option.some.injEq] at hend
      subst hend
      exact W.iret B.exec B.bytes (hr.trans hret) fin hS1.2.2 hd
    · rename_i x hret
      split at hend
      · rename_i hc
        simp only [Option.some.injEq] at hend
        subst hend
        refine W.zret B.exec B.bytes (hr.trans hret) ?_ fin hS1.2.2 hd
        rcases hc.2 with rfl | rfl <;> rfl
      · cases hend
    · cases hend
  case lreturn =>
    split at hend
    · rename_i hret
      simp only [if_true, Option.some.injEq] at hend
      subst hend
      exact W.lret B.exec B.bytes (hr.trans hret) fin hS1.2.2 hd
    · cases hend
  case areturn =>
    split at hend
    · rename_i n a hret
      simp only [if_true, Option.some.injEq] at hend
      subst hend
      exact W.aret B.exec B.bytes (hr.trans hret) (Or.inl ⟨_, rfl⟩) (Or.inr ⟨_, rfl⟩) fin hS1.2.2 hd
    · rename_i n hret
      simp only [if_true, Option.some.injEq] at hend
      subst hend
      exact W.aret B.exec B.bytes (hr.trans hret) (Or.inl ⟨_, rfl⟩) (Or.inl rfl) fin hS1.2.2 hd
    · cases hend
  case return_ =>
    split at hend
    · rename_i hret
      simp only [if_true, Option.some.injEq] at hend
      subst hend
      exact W.vret B.exec B.bytes (hr.trans hret) fin hS1.2.2 hd
    · cases hend
theorem z_sound (Y : zY) (z0 : Nat) (l : Launch) : ∀ f, zGoal Y z0 l f
  | 0 => by
    intro d mi pc L st w r w' M hM hz
    simp [zrun] at hz
  | f + 1 => by
    have ih := z_sound Y z0 l f
    intro d mi pc L st w r w' M hM hz p e R s m args below meth c H locs cells slots Q ls C hw hS hl hfr hlo hce hsl hret
    unfold zrun at hz
    rw [hM] at hz
    obtain ⟨y, b, mL, ret, o, ini⟩ := M
    dsimp only at hz
    have hx := C.1
    have hb := C.2.1
    split at hz
    · cases hz
    · rename_i i len hd
      split at hz
      · rename_i r' hend
        simp only [Option.some.injEq, Prod.mk.injEq] at hz
        obtain ⟨rfl, rfl⟩ := hz
        obtain rfl := zend_len hend
        have h := hret H locs pc ls st i hd hend hw hS
        rw [Nat.sub_self, Nat.sub_self] at h
        exact h
      · split at hz
        · rename_i pc' L' st' hA
          exact zA_ok hx hb hA hd hl (fun ls' hl' => ih d mi pc' L' st' w r w' _ hM hz p e R s m args below meth c H locs cells slots Q ls' C hw hS hl' hfr hlo hce hsl hret)
        · split at hz
          · rename_i pc' st' w1 hH
            have h1 := zH_le hH
            have h2 := zrun_le _ _ _ _ _ _ _ _ _ hz
            have hc1 : cells + (w1.2.1 - w.2.1) + (w'.2.1 - w1.2.1) = cells + (w'.2.1 - w.2.1) := by have := h1.1; have := h2.1; omega
            have hc2 : slots + (w1.2.2 - w.2.2) + (w'.2.2 - w1.2.2) = slots + (w'.2.2 - w.2.2) := by have := h1.2; have := h2.2; omega
            refine zH_ok (nL := mL) C hH hd hw hS hl.1 hfr hlo (by omega) (by omega) (fun H1 locs1 hw1 hS1 => ?_)
            refine ih d mi pc' L st' w1 r w' _ hM hz p e R s m args below meth c H1 locs1 _ _ Q ls C hw1 hS1 hl hfr hlo (by omega) (by omega) ?_
            rw [hc1, hc2]
            exact hret
          · split at hz
            · cases hz
            · rename_i mj as rr hcall
              cases d with
              | zero => cases hz
              | succ d' =>
                dsimp only at hz
                split at hz
                · cases hz
                · rename_i mL' _ hM'
                  split at hz
                  · rename_i hen
                    split at hz
                    · cases hz
                    · rename_i v w1 hrun
                      have h1 := zrun_le _ _ _ _ _ _ _ _ _ hrun
                      have h2 := zrun_le _ _ _ _ _ _ _ _ _ hz
                      have hc1 : cells + (w1.2.1 - w.2.1) + (w'.2.1 - w1.2.1) = cells + (w'.2.1 - w.2.1) := by have := h1.1; have := h2.1; omega
                      have hc2 : slots + (w1.2.2 - w.2.2) + (w'.2.2 - w1.2.2) = slots + (w'.2.2 - w.2.2) := by have := h1.2; have := h2.2; omega
                      obtain ⟨rfl, hr⟩ := zcall_run (l := l) (e := e) (R := R) (below := below) (H := H) (locs := locs) (cells := cells) (slots := slots) (pc := pc) (ls := ls) C hcall hd hM' (fun hlt => z_met ih hM' hlt hen hrun) rfl rfl hfr (by show 60 * d' + 60 ≤ _; omega) hw hS hl.1 ⟨by omega, by omega⟩
                      refine z_call hr hS (fun H1 locs1 hw1 hS1 => ?_)
                      refine ih (d' + 1) mi (pc + 3) L (v.toList ++ rr) w1 r w' _ hM hz p e R s m args below meth c H1 locs1 _ _ Q ls C hw1 hS1 hl hfr hlo (by omega) (by omega) ?_
                      rw [hc1, hc2]
                      exact hret
                  · cases hz
end
section
/-! how runs of the small machine are shown: zev d mi pc L st w r w': from there the method comes to its end with r and w' -/
theorem zrun_more : ∀ (f d mi pc : Nat) (L : zL) (st : List Value) (w : zW) (x : Option Value × zW), zrun f d mi pc L st w = some x → zrun (f + 1) d mi pc L st w = some x
  | 0, d, mi, pc, L, st, w, x, h => by simp [zrun] at h
  | f + 1, d, mi, pc, L, st, w, x, h => by
    unfold zrun at h
    unfold zrun
    split at h
    · cases h
    · rename_i hM
      try rw [hM]
      try dsimp only
      split at h
      · cases h
      · rename_i hd
        try rw [hd]
        try dsimp only
        split at h
        · rename_i he
          try rw [he]
          exact h
        · rename_i he
          try rw [he]
          try dsimp only
          split at h
          · rename_i ha
            try rw [ha]
            exact zrun_more f _ _ _ _ _ _ _ h
          · rename_i ha
            try rw [ha]
            try dsimp only
            split at h
            · rename_i hh
              try rw [hh]
              exact zrun_more f _ _ _ _ _ _ _ h
            · rename_i hh
              try rw [hh]
              try dsimp only
              split at h
              · cases h
              · rename_i hc
                try rw [hc]
                try dsimp only
                cases d with
                | zero => cases h
                | succ d' =>
                  dsimp only at h ⊢
                  split at h
                  · cases h
                  · rename_i hM'
                    try rw [hM']
                    try dsimp only
                    split at h
                    · rename_i hen
                      try rw [if_pos hen]
                      split at h
                      · cases h
                      · rename_i hr
                        rw [zrun_more f _ _ _ _ _ _ _ hr]
                        exact zrun_more f _ _ _ _ _ _ _ h
                    · cases h
theorem zrun_up {f g d mi pc : Nat} {L : zL} {st : List Value} {w : zW} {x : Option Value × zW} (hfg : f ≤ g) (h : zrun f d mi pc L st w = some x) : zrun g d mi pc L st w = some x := by
  induction hfg with
  | refl => exact h
  | step _ ih => exact zrun_more _ _ _ _ _ _ _ _ ih
def zev (d mi pc : Nat) (L : zL) (st : List Value) (w : zW) (r : Option Value) (w' : zW) : Prop := ∃ f, zrun f d mi pc L st w = some (r, w')
/-- a method from its entry -/
def zmet (d mi : Nat) (as : List Value) (w : zW) (r : Option Value) (w' : zW) : Prop := ∃ M, zMt[mi]? = some M ∧ (zen as).length ≤ M.2.2.1 ∧ zev d mi 0 (zin M.2.2.1 as) [] w r w'
section ZE
variable {d mi pc len mL o : Nat} {L L' : zL} {st st' : List Value} {w w1 w' : zW} {r : Option Value} {y : MethodName} {b : ByteArray} {ret : Option FieldType} {ini : Bool} {i : Instr} {pc' : Nat}
theorem zev_end {r' : Option Value} (hM : zMt[mi]? = some (y, b, mL, ret, o, ini)) (hd : decode b pc = .ok (i, len)) (he : zend ret i len st = some r') : zev d mi pc L st w r' w := ⟨1, by simp [zrun, hM, hd, he]⟩
theorem zev_A (hM : zMt[mi]? = some (y, b, mL, ret, o, ini)) (hd : decode b pc = .ok (i, len)) (he : zend ret i len st = none) (ha : zA mL i len pc L st = some (pc', L', st')) (k : zev d mi pc' L' st' w r w') : zev d mi pc L st w r w' := by
  obtain ⟨f, hf⟩ := k
  exact ⟨f + 1, by simp [zrun, hM, hd, he, ha, hf]⟩
theorem zev_H (hM : zMt[mi]? = some (y, b, mL, ret, o, ini)) (hd : decode b pc = .ok (i, len)) (he : zend ret i len st = none) (ha : zA mL i len pc L st = none) (hh : zH o ini d i len pc st w = some (pc', st', w1)) (k : zev d mi pc' L st' w1 r w') : zev d mi pc L st w r w' := by
  obtain ⟨f, hf⟩ := k
  exact ⟨f + 1, by simp [zrun, hM, hd, he, ha, hh, hf]⟩
theorem zev_call {mj : Nat} {as rr : List Value} {v : Option Value} (hM : zMt[mi]? = some (y, b, mL, ret, o, ini)) (hd : decode b pc = .ok (i, len)) (he : zend ret i len st = none) (ha : zA mL i len pc L st = none) (hh : zH o ini (d + 1) i len pc st w = none) (hc : zcall o i len st w = some (mj, as, rr)) (hm : zmet d mj as w v w1) (k : zev (d + 1) mi (pc + 3) L (v.toList ++ rr) w1 r w') : zev (d + 1) mi pc L st w r w' := by
  obtain ⟨M', hM', hen, f1, h1⟩ := hm
  obtain ⟨f2, h2⟩ := k
  obtain ⟨y', b', mL', ret', o', ini'⟩ := M'
  refine ⟨max f1 f2 + 1, ?_⟩
  have h1 := zrun_up (Nat.le_max_left f1 f2) h1
  have h2 := zrun_up (Nat.le_max_right f1 f2) h2
  dsimp only at hen h1
  simp [zrun, hM, hd, he, ha, hh, hc, hM', hen, h1, h2]
/-- branches -/
theorem zev_if {c : Jvm.ClassFile.Cond} {off : Int} {x : Int32} {rr : List Value} (tgt : Nat) (hM : zMt[mi]? = some (y, b, mL, ret, o, ini)) (hd : decode b pc = .ok (.ifCond c off, 3)) (ht : (pc : Int) + off = (tgt : Int)) (kt : zcc c x 0 = true → zev d mi tgt L rr w r w') (kf : zcc c x 0 = false → zev d mi (pc + 3) L rr w r w') : zev d mi pc L (.int x :: rr) w r w' := by
  cases hx : zcc c x 0 with
  | true => exact zev_A hM hd rfl (by simp only [zA, zif, zbr, hx, ht]; simp) (kt hx)
  | false => exact zev_A hM hd rfl (by simp only [zA, zif, zbr, hx, ht]; simp) (kf hx)
theorem zev_ic {c : Jvm.ClassFile.Cond} {off : Int} {x z : Int32} {rr : List Value} (tgt : Nat) (hM : zMt[mi]? = some (y, b, mL, ret, o, ini)) (hd : decode b pc = .ok (.if_icmp c off, 3)) (ht : (pc : Int) + off = (tgt : Int)) (kt : zcc c x z = true → zev d mi tgt L rr w r w') (kf : zcc c x z = false → zev d mi (pc + 3) L rr w r w') : zev d mi pc L (.int z :: .int x :: rr) w r w' := by
  cases hx : zcc c x z with
  | true => exact zev_A hM hd rfl (by simp only [zA, zic, zbr, hx, ht]; simp) (kt hx)
  | false => exact zev_A hM hd rfl (by simp only [zA, zic, zbr, hx, ht]; simp) (kf hx)
/-- reads and stores, the cell by a row of its own -/
theorem zev_get {idx a ci k : Nat} {fs rr : List Value} {cs : List Nat} {v : Value} (hM : zMt[mi]? = some (y, b, mL, ret, o, ini)) (hd : decode b pc = .ok (.getfield idx, 3)) (hf : zfl o idx = some (k, cs)) (ha : w.1 a = some (.inr (ci, fs))) (hc : ci ∈ cs) (hv : fs[k]? = some v) (kk : zev d mi (pc + 3) L (v :: rr) w r w') : zev d mi pc L (.ref a :: rr) w r w' :=
  zev_H hM hd rfl (by simp only [zA]) (by simp only [zH, zHget, ha, hf, hc, hv]; simp) kk
theorem zev_put {idx a ci k : Nat} {fs rr : List Value} {cs : List Nat} {v : Value} (hM : zMt[mi]? = some (y, b, mL, ret, o, ini)) (hd : decode b pc = .ok (.putfield idx, 3)) (hf : zfl o idx = some (k, cs)) (ha : w.1 a = some (.inr (ci, fs))) (hc : ci ∈ cs) (hl : k < fs.length) (hv : zokv (ztyp ci k) v = true) (hn : zfin o ci k ini = true) (kk : zev d mi (pc + 3) L rr (va_up w.1 a (some (.inr (ci, fs.set k v))), w.2) r w') : zev d mi pc L (v :: .ref a :: rr) w r w' :=
  zev_H hM hd rfl (by simp only [zA]) (by simp only [zH, zHput, ha, hf, hc, hl, hv, hn]; simp) kk
theorem zev_iald {a N : Nat} {f : Nat → Int32} {x : Int32} {rr : List Value} (hM : zMt[mi]? = some (y, b, mL, ret, o, ini)) (hd : decode b pc = .ok (.iaload, 1)) (ha : w.1 a = some (.inl (0, N, .inl f))) (hi : zbd x N = true) (kk : zev d mi (pc + 1) L (.int (f x.toNatClampNeg) :: rr) w r w') : zev d mi pc L (.int x :: .ref a :: rr) w r w' :=
  zev_H hM hd rfl (by simp only [zA]) (by simp only [zH, zHia, ha, hi]; simp) kk
theorem zev_lald {a N : Nat} {f : Nat → Int64} {x : Int32} {rr : List Value} (hM : zMt[mi]? = some (y, b, mL, ret, o, ini)) (hd : decode b pc = .ok (.laload, 1)) (ha : w.1 a = some (.inl (1, N, .inr (.inl f)))) (hi : zbd x N = true) (kk : zev d mi (pc + 1) L (.long (f x.toNatClampNeg) :: rr) w r w') : zev d mi pc L (.int x :: .ref a :: rr) w r w' :=
  zev_H hM hd rfl (by simp only [zA]) (by simp only [zH, zHla, ha, hi]; simp) kk
theorem zev_bald {a N : Nat} {f : Nat → Int32} {x : Int32} {rr : List Value} (hM : zMt[mi]? = some (y, b, mL, ret, o, ini)) (hd : decode b pc = .ok (.baload, 1)) (ha : w.1 a = some (.inl (2, N, .inl f))) (hi : zbd x N = true) (kk : zev d mi (pc + 1) L (.int (f x.toNatClampNeg) :: rr) w r w') : zev d mi pc L (.int x :: .ref a :: rr) w r w' :=
  zev_H hM hd rfl (by simp only [zA]) (by simp only [zH, zHba, ha, hi]; simp) kk
theorem zev_aald {a N kd : Nat} {f : Nat → Option Nat} {x : Int32} {rr : List Value} (hM : zMt[mi]? = some (y, b, mL, ret, o, ini)) (hd : decode b pc = .ok (.aaload, 1)) (ha : w.1 a = some (.inl (kd, N, .inr (.inr (.inr (.inr f)))))) (hk : kd = 3 ∨ kd = 4) (hi : zbd x N = true) (kk : zev d mi (pc + 1) L (va_rf (f x.toNatClampNeg) :: rr) w r w') : zev d mi pc L (.int x :: .ref a :: rr) w r w' :=
  zev_H hM hd rfl (by simp only [zA]) (by simp only [zH, zHaa, ha, hi, hk]; simp) kk
theorem zev_iast {a N : Nat} {f : Nat → Int32} {x v : Int32} {rr : List Value} (hM : zMt[mi]? = some (y, b, mL, ret, o, ini)) (hd : decode b pc = .ok (.iastore, 1)) (ha : w.1 a = some (.inl (0, N, .inl f))) (hi : zbd x N = true) (kk : zev d mi (pc + 1) L rr (va_up w.1 a (some (.inl (0, N, .inl (upd f x.toNatClampNeg v)))), w.2) r w') : zev d mi pc L (.int v :: .int x :: .ref a :: rr) w r w' :=
  zev_H hM hd rfl (by simp only [zA]) (by simp only [zH, zHis, ha, hi]; simp) kk
theorem zev_last {a N : Nat} {f : Nat → Int64} {x : Int32} {v : Int64} {rr : List Value} (hM : zMt[mi]? = some (y, b, mL, ret, o, ini)) (hd : decode b pc = .ok (.lastore, 1)) (ha : w.1 a = some (.inl (1, N, .inr (.inl f)))) (hi : zbd x N = true) (kk : zev d mi (pc + 1) L rr (va_up w.1 a (some (.inl (1, N, .inr (.inl (vp_updL f x.toNatClampNeg v))))), w.2) r w') : zev d mi pc L (.long v :: .int x :: .ref a :: rr) w r w' :=
  zev_H hM hd rfl (by simp only [zA]) (by simp only [zH, zHls, ha, hi]; simp) kk
theorem zev_bast {a N : Nat} {f : Nat → Int32} {x v : Int32} {rr : List Value} (hM : zMt[mi]? = some (y, b, mL, ret, o, ini)) (hd : decode b pc = .ok (.bastore, 1)) (ha : w.1 a = some (.inl (2, N, .inl f))) (hi : zbd x N = true) (kk : zev d mi (pc + 1) L rr (va_up w.1 a (some (.inl (2, N, .inl (upd f x.toNatClampNeg (vp_nar .boolean v))))), w.2) r w') : zev d mi pc L (.int v :: .int x :: .ref a :: rr) w r w' :=
  zev_H hM hd rfl (by simp only [zA]) (by simp only [zH, zHbs, ha, hi]; simp) kk
end ZE
end
section
/-! runs don't depend on where the cells lie: the same run with other addresses -/
def zv (ρ : Nat → Nat) (v : Value) : Value := match v with
  | .ref a => .ref (ρ a)
  | v => v
def zvE (ρ : Nat → Nat) (e : va_E) : va_E := match e with
  | .inl (k, N, .inr (.inr (.inr (.inr f)))) => .inl (k, N, .inr (.inr (.inr (.inr (fun i => (f i).map ρ)))))
  | .inr (ci, fs) => .inr (ci, fs.map (zv ρ))
  | e => e
def zvL (ρ : Nat → Nat) (L : zL) : zL := L.map (Option.map (zv ρ))
def zvS (ρ : Nat → Nat) (st : List Value) : List Value := st.map (zv ρ)
/-- W is w at other addresses, laid over B -/
def zsim (ρ : Nat → Nat) (B : Nat → Option va_E) (w W : zW) : Prop := W.2.1 = ρ w.2.1 ∧ W.2.2 = w.2.2 ∧ 1 ≤ w.2.1 ∧ (∀ a e, w.1 a = some e → W.1 (ρ a) = some (zvE ρ e)) ∧ ∀ q, (∀ a e, w.1 a = some e → ρ a ≠ q) → W.1 q = B q
section ZV
variable {ρ : Nat → Nat}
theorem zv_cat (v : Value) : (zv ρ v).category = v.category := by cases v <;> rfl
theorem zvL_get (L : zL) (i : Nat) : zget (zvL ρ L) i = (zget L i).map (zv ρ) := by
  unfold zget zvL
  rw [List.getElem?_map]
  cases L[i]? with
  | none => rfl
  | some x => cases x <;> rfl
theorem zvL_set (L : zL) (i : Nat) (x : Option Value) : (zvL ρ L).set i (x.map (zv ρ)) = zvL ρ (L.set i x) := by
  unfold zvL
  rw [List.map_set]
theorem zvL_cut (L : zL) (i : Nat) : zcut (zvL ρ L) i = zvL ρ (zcut L i) := by
  cases i with
  | zero => rfl
  | succ j =>
    simp only [zcut, zvL_get]
    cases zget L j with
    | none => rfl
    | some v =>
      simp only [Option.map_some, zv_cat]
      split
      · exact zvL_set L j none
      · rfl
theorem zvL_st1 (L : zL) (i : Nat) (v : Value) : zst1 (zvL ρ L) i (zv ρ v) = zvL ρ (zst1 L i v) := by
  unfold zst1
  rw [zvL_cut]
  exact zvL_set _ i (some v)
theorem zvL_st2 (L : zL) (i : Nat) (v : Value) : zst2 (zvL ρ L) i (zv ρ v) = zvL ρ (zst2 L i v) := by
  unfold zst2
  rw [zvL_cut]
  rw [show (zvL ρ (zcut L i)).set i (some (zv ρ v)) = zvL ρ ((zcut L i).set i (some v)) from zvL_set _ i (some v)]
  exact zvL_set _ (i + 1) none
theorem zkI_v (v : Value) : zkI (zv ρ v) = zkI v := by cases v <;> rfl
theorem zkL_v (v : Value) : zkL (zv ρ v) = zkL v := by cases v <;> rfl
theorem zkA_v (v : Value) : zkA (zv ρ v) = zkA v := by cases v <;> rfl
theorem zN_self {n pc : Nat} {L : zL} {st : List Value} : zN n n pc L st = some (pc + n, L, st) := by simp [zN]
theorem zld_v {n pc i : Nat} {L : zL} {st : List Value} {v : Value} {k : Value → Bool} (hk : ∀ v, k (zv ρ v) = k v) (h1 : zget L i = some v) (h2 : k v = true) : zld n n pc (zvL ρ L) (zvS ρ st) i k = some (pc + n, zvL ρ L, zvS ρ (v :: st)) := by
  simp only [zld, zvL_get, h1, Option.map_some, hk, h2, if_true, zN_self]
  rfl
theorem zs1_v {nL n pc i : Nat} {L : zL} {st : List Value} {v : Value} {k : Value → Bool} (hk : ∀ v, k (zv ρ v) = k v) (h2 : k v = true) (h3 : i < nL) : zs1 nL n n pc (zvL ρ L) (zvS ρ (v :: st)) i k = some (pc + n, zvL ρ (zst1 L i v), zvS ρ st) := by
  simp only [zs1, zvS, List.map_cons, hk, h2, h3, decide_true, Bool.and_self, if_true, zN_self, zvL_st1]
theorem zbr_v {pc : Nat} {L L' : zL} {r r' : List Value} {off : Int} {t : Bool} {pc' : Nat} (h : zbr 3 pc L r off t = some (pc', L', r')) : zbr 3 pc (zvL ρ L) (zvS ρ r) off t = some (pc', zvL ρ L', zvS ρ r') := by
  unfold zbr at h ⊢
  split at h
  · rename_i hc
    rw [if_pos hc]
    split at h
    · rename_i ht
      rw [if_pos ht]
      simp only [Option.some.injEq, Prod.mk.injEq] at h ⊢
      obtain ⟨rfl, rfl, rfl⟩ := h
      exact ⟨rfl, rfl, rfl⟩
    · rename_i ht
      rw [if_neg ht]
      simp only [Option.some.injEq, Prod.mk.injEq] at h ⊢
      obtain ⟨rfl, rfl, rfl⟩ := h
      exact ⟨rfl, rfl, rfl⟩
  · cases h
theorem zJ_v {pc : Nat} {L L' : zL} {r r' : List Value} {off : Int} {pc' : Nat} (h : zJ pc off L r = some (pc', L', r')) : zJ pc off (zvL ρ L) (zvS ρ r) = some (pc', zvL ρ L', zvS ρ r') := by
  unfold zJ at h ⊢
  split at h
  · rename_i hc
    rw [if_pos hc]
    simp only [Option.some.injEq, Prod.mk.injEq] at h ⊢
    obtain ⟨rfl, rfl, rfl⟩ := h
    exact ⟨rfl, rfl, rfl⟩
  · cases h
theorem zA_v {nL len pc pc' : Nat} {i : Instr} {L L' : zL} {st st' : List Value} (hz : zA nL i len pc L st = some (pc', L', st')) : zA nL i len pc (zvL ρ L) (zvS ρ st) = some (pc', zvL ρ L', zvS ρ st') := by
  cases i <;> simp only [zA, reduceCtorEq] at hz ⊢
  case aconst_null => obtain ⟨rfl, rfl, rfl, rfl⟩ := zN_inv hz; exact zN_self
  case iconst n => obtain ⟨rfl, rfl, rfl, rfl⟩ := zN_inv hz; exact zN_self
  case bipush n => obtain ⟨rfl, rfl, rfl, rfl⟩ := zN_inv hz; exact zN_self
  case sipush n => obtain ⟨rfl, rfl, rfl, rfl⟩ := zN_inv hz; exact zN_self
  case lconst n => obtain ⟨rfl, rfl, rfl, rfl⟩ := zN_inv hz; exact zN_self
  case iload_n k => obtain ⟨v, h1, h2, rfl, rfl, rfl, rfl⟩ := zld_inv hz; exact zld_v zkI_v h1 h2
  case iload k => obtain ⟨v, h1, h2, rfl, rfl, rfl, rfl⟩ := zld_inv hz; exact zld_v zkI_v h1 h2
  case lload_n k => obtain ⟨v, h1, h2, rfl, rfl, rfl, rfl⟩ := zld_inv hz; exact zld_v zkL_v h1 h2
  case lload k => obtain ⟨v, h1, h2, rfl, rfl, rfl, rfl⟩ := zld_inv hz; exact zld_v zkL_v h1 h2
  case aload_n k => obtain ⟨v, h1, h2, rfl, rfl, rfl, rfl⟩ := zld_inv hz; exact zld_v zkA_v h1 h2
  case aload k => obtain ⟨v, h1, h2, rfl, rfl, rfl, rfl⟩ := zld_inv hz; exact zld_v zkA_v h1 h2
  case istore_n k => obtain ⟨v, rfl, h2, h3, rfl, rfl, rfl⟩ := zs1_inv hz; exact zs1_v zkI_v h2 h3
  case istore k => obtain ⟨v, rfl, h2, h3, rfl, rfl, rfl⟩ := zs1_inv hz; exact zs1_v zkI_v h2 h3
  case astore_n k => obtain ⟨v, rfl, h2, h3, rfl, rfl, rfl⟩ := zs1_inv hz; exact zs1_v zkA_v h2 h3
  case astore k => obtain ⟨v, rfl, h2, h3, rfl, rfl, rfl⟩ := zs1_inv hz; exact zs1_v zkA_v h2 h3
  case lstore_n k => obtain ⟨x, rfl, h3, rfl, rfl, rfl⟩ := zs2_inv hz; simp only [zs2, zvS, List.map_cons, zv, h3, if_true, zN_self]; rw [← zvL_st2]; rfl
  case lstore k => obtain ⟨x, rfl, h3, rfl, rfl, rfl⟩ := zs2_inv hz; simp only [zs2, zvS, List.map_cons, zv, h3, if_true, zN_self]; rw [← zvL_st2]; rfl
  case iinc k n => obtain ⟨x, h1, h3, rfl, rfl, rfl, rfl⟩ := zinc_inv hz; simp only [zinc, zvL_get, h1, Option.map_some, zv, h3, if_true, zN_self]; rw [← zvL_st1]; rfl
  case iadd => obtain ⟨x, y, r, rfl, rfl, rfl, rfl, rfl⟩ := zII_inv hz; exact zN_self
  case isub => obtain ⟨x, y, r, rfl, rfl, rfl, rfl, rfl⟩ := zII_inv hz; exact zN_self
  case imul => obtain ⟨x, y, r, rfl, rfl, rfl, rfl, rfl⟩ := zII_inv hz; exact zN_self
  case iand => obtain ⟨x, y, r, rfl, rfl, rfl, rfl, rfl⟩ := zII_inv hz; exact zN_self
  case ior => obtain ⟨x, y, r, rfl, rfl, rfl, rfl, rfl⟩ := zII_inv hz; exact zN_self
  case ixor => obtain ⟨x, y, r, rfl, rfl, rfl, rfl, rfl⟩ := zII_inv hz; exact zN_self
  case ishl => obtain ⟨x, y, r, rfl, rfl, rfl, rfl, rfl⟩ := zII_inv hz; exact zN_self
  case ishr => obtain ⟨x, y, r, rfl, rfl, rfl, rfl, rfl⟩ := zII_inv hz; exact zN_self
  case iushr => obtain ⟨x, y, r, rfl, rfl, rfl, rfl, rfl⟩ := zII_inv hz; exact zN_self
  case idiv => obtain ⟨x, y, r, rfl, h0, rfl, rfl, rfl, rfl⟩ := zID_inv hz; simp only [zID, zvS, List.map_cons, zv, if_neg h0, zN_self]
  case irem => obtain ⟨x, y, r, rfl, h0, rfl, rfl, rfl, rfl⟩ := zID_inv hz; simp only [zID, zvS, List.map_cons, zv, if_neg h0, zN_self]
  case ineg => obtain ⟨x, r, rfl, rfl, rfl, rfl, rfl⟩ := zI1_inv hz; exact zN_self
  case i2l => obtain ⟨x, r, rfl, rfl, rfl, rfl, rfl⟩ := zI1_inv hz; exact zN_self
  case ladd => obtain ⟨x, y, r, rfl, rfl, rfl, rfl, rfl⟩ := zLL_inv hz; exact zN_self
  case lsub => obtain ⟨x, y, r, rfl, rfl, rfl, rfl, rfl⟩ := zLL_inv hz; exact zN_self
  case lmul => obtain ⟨x, y, r, rfl, rfl, rfl, rfl, rfl⟩ := zLL_inv hz; exact zN_self
  case land => obtain ⟨x, y, r, rfl, rfl, rfl, rfl, rfl⟩ := zLL_inv hz; exact zN_self
  case lor => obtain ⟨x, y, r, rfl, rfl, rfl, rfl, rfl⟩ := zLL_inv hz; exact zN_self
  case lxor => obtain ⟨x, y, r, rfl, rfl, rfl, rfl, rfl⟩ := zLL_inv hz; exact zN_self
  case lcmp => obtain ⟨x, y, r, rfl, rfl, rfl, rfl, rfl⟩ := zLL_inv hz; exact zN_self
  case ldiv => obtain ⟨x, y, r, rfl, h0, rfl, rfl, rfl, rfl⟩ := zLD_inv hz; simp only [zLD, zvS, List.map_cons, zv, if_neg h0, zN_self]
  case lrem => obtain ⟨x, y, r, rfl, h0, rfl, rfl, rfl, rfl⟩ := zLD_inv hz; simp only [zLD, zvS, List.map_cons, zv, if_neg h0, zN_self]
  case lneg => obtain ⟨x, r, rfl, rfl, rfl, rfl, rfl⟩ := zL1_inv hz; exact zN_self
  case l2i => obtain ⟨x, r, rfl, rfl, rfl, rfl, rfl⟩ := zL1_inv hz; exact zN_self
  case lshl => obtain ⟨x, y, r, rfl, rfl, rfl, rfl, rfl⟩ := zLI_inv hz; exact zN_self
  case lshr => obtain ⟨x, y, r, rfl, rfl, rfl, rfl, rfl⟩ := zLI_inv hz; exact zN_self
  case lushr => obtain ⟨x, y, r, rfl, rfl, rfl, rfl, rfl⟩ := zLI_inv hz; exact zN_self
  case dup =>
    unfold zdup at hz
    split at hz
    · split at hz
      · rename_i h
        obtain ⟨rfl, rfl, rfl, rfl⟩ := zN_inv hz
        simp only [zdup, zvS, List.map_cons, zv_cat, h, if_true, zN_self]
      · cases hz
    · cases hz
  case pop =>
    unfold zpop at hz
    split at hz
    · split at hz
      · rename_i h
        obtain ⟨rfl, rfl, rfl, rfl⟩ := zN_inv hz
        simp only [zpop, zvS, List.map_cons, zv_cat, h, if_true, zN_self]
      · cases hz
    · cases hz
  case dup2 =>
    unfold zdup2 at hz
    split at hz
    · split at hz
      · rename_i h
        obtain ⟨rfl, rfl, rfl, rfl⟩ := zN_inv hz
        simp only [zdup2, zvS, List.map_cons, zv_cat, h, and_self, if_true, zN_self]
      · rename_i h
        split at hz
        · rename_i h2
          obtain ⟨rfl, rfl, rfl, rfl⟩ := zN_inv hz
          simp only [zdup2, zvS, List.map_cons, zv_cat, h2, if_true, zN_self]; simp
        · cases hz
    · split at hz
      · rename_i h
        obtain ⟨rfl, rfl, rfl, rfl⟩ := zN_inv hz
        simp only [zdup2, zvS, List.map_cons, List.map_nil, zv_cat, h, if_true, zN_self]
      · cases hz
    · cases hz
  case ifCond c off =>
    unfold zif at hz
    split at hz
    · obtain ⟨rfl, -⟩ := zbr_inv hz
      exact zbr_v hz
    · cases hz
  case if_icmp c off =>
    unfold zic at hz
    split at hz
    · obtain ⟨rfl, -⟩ := zbr_inv hz
      exact zbr_v hz
    · cases hz
  case ifnull off =>
    unfold znu at hz
    split at hz
    · obtain ⟨rfl, -⟩ := zbr_inv hz
      exact zbr_v hz
    · obtain ⟨rfl, -⟩ := zbr_inv hz
      exact zbr_v hz
    · cases hz
  case ifnonnull off =>
    unfold znu at hz
    split at hz
    · obtain ⟨rfl, -⟩ := zbr_inv hz
      exact zbr_v hz
    · obtain ⟨rfl, -⟩ := zbr_inv hz
      exact zbr_v hz
    · cases hz
  case goto off =>
    split at hz
    · rename_i h
      rw [if_pos h]
      exact zJ_v hz
    · cases hz
  case tableswitch d lo hi offs =>
    unfold zts at hz
    split at hz
    · simp only [zts, zvS, List.map_cons, zv]
      split at hz
      · rename_i h
        rw [if_pos h]
        exact zJ_v hz
      · rename_i h
        rw [if_neg h]
        split at hz
        · rename_i h2
          exact zJ_v hz
        · cases hz
    · cases hz
  case lookupswitch d ps =>
    unfold zls at hz
    split at hz
    · simp only [zls, zvS, List.map_cons, zv]
      split at hz
      · rename_i h
        rw [if_pos h]
        exact zJ_v hz
      · cases hz
    · cases hz
theorem zend_v {ret : Option FieldType} {i : Instr} {len : Nat} {st : List Value} {r : Option Value} (h : zend ret i len st = some r) : zend ret i len (zvS ρ st) = some (r.map (zv ρ)) := by
  cases i <;> simp only [zend, reduceCtorEq] at h ⊢
  all_goals (split at h <;> first | (cases h; done) | (split at h <;> first | (cases h; done) | (rename_i hc; simp only [Option.some.injEq] at h; subst h; simp only [zvS, List.map_cons, List.map_nil, zv, hc, if_true, and_self, or_true, true_or, true_and, Option.map_some, Option.map_none]; try simp [hc])))
end ZV
/-- an instruction is of one kind alone -/
theorem zA_ex {nL len pc : Nat} {i : Instr} {L : zL} {st : List Value} {x : zF} (h : zA nL i len pc L st = some x) : ∀ (ret : Option FieldType) (len' : Nat) (st' : List Value), zend ret i len' st' = none := by
  intro ret len' st'
  cases i <;> simp only [zA, reduceCtorEq] at h <;> rfl
theorem zH_ex {o d len pc : Nat} {ini : Bool} {i : Instr} {st : List Value} {w : zW} {x : zG} (h : zH o ini d i len pc st w = some x) : (∀ (ret : Option FieldType) (len' : Nat) (st' : List Value), zend ret i len' st' = none) ∧ ∀ (nL len' pc' : Nat) (L : zL) (st' : List Value), zA nL i len' pc' L st' = none := by
  cases i <;> simp only [zH, reduceCtorEq] at h <;> exact ⟨fun _ _ _ => rfl, fun _ _ _ _ _ => rfl⟩
theorem zcall_ex {o len : Nat} {i : Instr} {st : List Value} {w : zW} {x : Nat × List Value × List Value} (h : zcall o i len st w = some x) : (∀ (ret : Option FieldType) (len' : Nat) (st' : List Value), zend ret i len' st' = none) ∧ (∀ (nL len' pc' : Nat) (L : zL) (st' : List Value), zA nL i len' pc' L st' = none) ∧ ∀ (ini : Bool) (d len' pc' : Nat) (st' : List Value) (w' : zW), zH o ini d i len' pc' st' w' = none := by
  cases i <;> simp only [zcall, reduceCtorEq] at h
  case invokespecial idx =>
    refine ⟨fun _ _ _ => rfl, fun _ _ _ _ _ => rfl, fun ini d len' pc' st' w' => ?_⟩
    simp only [zH, zHob]
    split at h
    · rename_i kd a b c hcl
      split at h
      · rename_i hc
        split
        · rw [if_neg]
          rintro ⟨-, -, -, h4⟩
          rw [hcl] at h4
          simp only [Option.some.injEq, Prod.mk.injEq] at h4
          omega
        · rfl
      · cases h
    · cases h
  case invokestatic idx =>
    refine ⟨fun _ _ _ => rfl, fun _ _ _ _ _ => rfl, fun ini d len' pc' st' w' => ?_⟩
    split at h
    · rename_i kd a b c hcl
      split at h
      · rename_i hc
        obtain ⟨-, rfl, -⟩ := hc
        have h1 : zHmm o d idx len' pc' st' w' = none := by
          simp only [zHmm]
          split
          · split
            · rw [hcl]
              simp
            · rfl
          · rfl
        have h2 : zHcp o d idx len' pc' st' w' = none := by
          simp only [zHcp]
          split
          · rw [if_neg]
            rintro ⟨-, -, -, h4, -⟩
            rw [hcl] at h4
            simp at h4
          · rfl
        simp only [zH, h1, h2]
      · cases h
    · cases h
  case invokevirtual idx => exact ⟨fun _ _ _ => rfl, fun _ _ _ _ _ => rfl, fun _ _ _ _ _ _ => rfl⟩
end
section
/-! the same run with other addresses: the heap -/
section ZV2
variable {ρ : Nat → Nat} {B : Nat → Option va_E} {w W w1 : zW}
theorem zsim.put {a : Nat} {e : va_E} (hρ : ∀ a b, ρ a = ρ b → a = b) (h : zsim ρ B w W) : zsim ρ B (va_up w.1 a (some e), w.2) (va_up W.1 (ρ a) (some (zvE ρ e)), W.2) := by
  obtain ⟨h1, h2, h3, h4, h5⟩ := h
  refine ⟨h1, h2, h3, fun b x hb => ?_, fun q hq => ?_⟩
  · by_cases hba : b = a
    · subst hba
      simp only [va_up, if_true, Option.some.injEq] at hb ⊢
      rw [hb]
    · simp only [va_up, if_neg hba] at hb
      have : ρ b ≠ ρ a := fun h => hba (hρ _ _ h)
      simp only [va_up, if_neg this]
      exact h4 b x hb
  · have hqa : q ≠ ρ a := fun h => hq a e (by simp [va_up]) h.symm
    simp only [va_up, if_neg hqa]
    refine h5 q (fun b x hb => ?_)
    by_cases hba : b = a
    · subst hba
      exact fun h => hqa h.symm
    · exact hq b x (by simp only [va_up, if_neg hba]; exact hb)
theorem zsim.new {e : va_E} (k : Nat) (hρ : ∀ a b, ρ a = ρ b → a = b) (hs : ∀ n, 1 ≤ n → ρ (n + 1) = ρ n + 1) (h : zsim ρ B w W) : zsim ρ B (va_up w.1 w.2.1 (some e), w.2.1 + 1, w.2.2 + k) (va_up W.1 W.2.1 (some (zvE ρ e)), W.2.1 + 1, W.2.2 + k) := by
  have h' := h.put (a := w.2.1) (e := e) hρ
  obtain ⟨h1, h2, h3, h4, h5⟩ := h
  obtain ⟨-, -, -, g4, g5⟩ := h'
  rw [← h1] at g4 g5
  exact ⟨by show W.2.1 + 1 = ρ (w.2.1 + 1); rw [hs _ h3, h1], by show W.2.2 + k = w.2.2 + k; rw [h2], Nat.le_add_left 1 _, g4, g5⟩
theorem zv_ref (a : Nat) : zv ρ (.ref a) = .ref (ρ a) := rfl
theorem zokv_v (ty : FieldType) (v : Value) : zokv ty (zv ρ v) = zokv ty v := by
  cases v <;> cases ty <;> rfl
theorem zdf_v (ci : Nat) : (zdf ci).map (zv ρ) = zdf ci := by
  unfold zdf
  split <;> rfl
theorem zrf_v (r : Option Nat) : va_rf (r.map ρ) = zv ρ (va_rf r) := by
  cases r <;> rfl
theorem zsum_v (r : List Value) : zsum (zvS ρ r) = zsum r := by
  unfold zsum zvS
  rw [List.map_map]
  congr 1
  apply List.map_congr_left
  intro v _
  exact zv_cat v
theorem zH_v {o d len pc pc' : Nat} {ini : Bool} {i : Instr} {st st' : List Value} (hρ : ∀ a b, ρ a = ρ b → a = b) (hs : ∀ n, 1 ≤ n → ρ (n + 1) = ρ n + 1) (hz : zH o ini d i len pc st w = some (pc', st', w1)) (hw : zsim ρ B w W) : ∃ W1, zH o ini d i len pc (zvS ρ st) W = some (pc', zvS ρ st', W1) ∧ zsim ρ B w1 W1 := by
  have hr := hw.2.2.2.1
  cases i <;> simp only [zH, reduceCtorEq] at hz ⊢
  case getfield idx =>
    unfold zHget at hz
    split at hz
    · rename_i a r
      split at hz
      · rename_i ci fs k cs ha hf
        split at hz
        · rename_i hc
          split at hz
          · rename_i v hv
            simp only [Option.some.injEq, Prod.mk.injEq] at hz
            obtain ⟨rfl, rfl, rfl⟩ := hz
            refine ⟨W, ?_, hw⟩
            have hv' : (fs.map (zv ρ))[k]? = some (zv ρ v) := by rw [List.getElem?_map, hv]; rfl
            have ha' := hr a _ ha
            simp only [zvE] at ha'
            simp only [zHget, zvS, List.map_cons, zv, ha', hf, if_pos hc, hv']
          · cases hz
        · cases hz
      · cases hz
    · cases hz
  case putfield idx =>
    unfold zHput at hz
    split at hz
    · rename_i v a r
      split at hz
      · rename_i ci fs k cs ha hf
        split at hz
        · rename_i hc
          simp only [Option.some.injEq, Prod.mk.injEq] at hz
          obtain ⟨rfl, rfl, rfl⟩ := hz
          have ha' := hr a _ ha
          simp only [zvE] at ha'
          refine ⟨_, ?_, hw.put (a := a) (e := .inr (ci, fs.set k v)) hρ⟩
          have hl : k < (fs.map (zv ρ)).length := by rw [List.length_map]; exact hc.2.2.1
          simp only [zHput, zvS, List.map_cons, zv_ref, ha', hf]
          rw [if_pos ⟨hc.1, hc.2.1, hl, by rw [zokv_v]; exact hc.2.2.2.1, hc.2.2.2.2⟩]
          simp only [zvE, List.map_set]
        · cases hz
      · cases hz
    · cases hz
  case iaload =>
    unfold zHia at hz
    split at hz
    · rename_i i a r
      split at hz
      · rename_i kd N f ha
        split at hz
        · rename_i hc
          simp only [Option.some.injEq, Prod.mk.injEq] at hz
          obtain ⟨rfl, rfl, rfl⟩ := hz
          have ha' := hr a _ ha
          simp only [zvE] at ha'
          exact ⟨W, by simp only [zHia, zvS, List.map_cons, zv, ha', if_pos hc], hw⟩
        · cases hz
      · cases hz
    · cases hz
  case baload =>
    unfold zHba at hz
    split at hz
    · rename_i i a r
      split at hz
      · rename_i kd N f ha
        split at hz
        · rename_i hc
          simp only [Option.some.injEq, Prod.mk.injEq] at hz
          obtain ⟨rfl, rfl, rfl⟩ := hz
          have ha' := hr a _ ha
          simp only [zvE] at ha'
          exact ⟨W, by simp only [zHba, zvS, List.map_cons, zv, ha', if_pos hc], hw⟩
        · cases hz
      · cases hz
    · cases hz
  case laload =>
    unfold zHla at hz
    split at hz
    · rename_i i a r
      split at hz
      · rename_i kd N f ha
        split at hz
        · rename_i hc
          simp only [Option.some.injEq, Prod.mk.injEq] at hz
          obtain ⟨rfl, rfl, rfl⟩ := hz
          have ha' := hr a _ ha
          simp only [zvE] at ha'
          exact ⟨W, by simp only [zHla, zvS, List.map_cons, zv, ha', if_pos hc], hw⟩
        · cases hz
      · cases hz
    · cases hz
  case aaload =>
    unfold zHaa at hz
    split at hz
    · rename_i i a r
      split at hz
      · rename_i kd N f ha
        split at hz
        · rename_i hc
          simp only [Option.some.injEq, Prod.mk.injEq] at hz
          obtain ⟨rfl, rfl, rfl⟩ := hz
          have ha' := hr a _ ha
          simp only [zvE] at ha'
          refine ⟨W, ?_, hw⟩
          simp only [zHaa, zvS, List.map_cons, zv, ha', if_pos hc, zrf_v]
        · cases hz
      · cases hz
    · cases hz
  case arraylength =>
    unfold zHal at hz
    split at hz
    · rename_i a r
      split at hz
      · rename_i kd N f ha
        split at hz
        · rename_i hc
          simp only [Option.some.injEq, Prod.mk.injEq] at hz
          obtain ⟨rfl, rfl, rfl⟩ := hz
          have ha' := hr a _ ha
          refine ⟨W, ?_, hw⟩
          obtain f | f | f | f | f := f <;> simp only [zvE] at ha' <;> simp only [zHal, zvS, List.map_cons, zv, ha', if_pos hc]
        · cases hz
      · cases hz
    · cases hz
  case iastore =>
    unfold zHis at hz
    split at hz
    · rename_i x i a r
      split at hz
      · rename_i kd N f ha
        split at hz
        · rename_i hc
          simp only [Option.some.injEq, Prod.mk.injEq] at hz
          obtain ⟨rfl, rfl, rfl⟩ := hz
          have ha' := hr a _ ha
          simp only [zvE] at ha'
          exact ⟨_, by simp only [zHis, zvS, List.map_cons, zv, ha', if_pos hc, zvE], hw.put (a := a) (e := .inl (0, N, .inl (upd f i.toNatClampNeg x))) hρ⟩
        · cases hz
      · cases hz
    · cases hz
  case bastore =>
    unfold zHbs at hz
    split at hz
    · rename_i x i a r
      split at hz
      · rename_i kd N f ha
        split at hz
        · rename_i hc
          simp only [Option.some.injEq, Prod.mk.injEq] at hz
          obtain ⟨rfl, rfl, rfl⟩ := hz
          have ha' := hr a _ ha
          simp only [zvE] at ha'
          exact ⟨_, by simp only [zHbs, zvS, List.map_cons, zv, ha', if_pos hc, zvE], hw.put (a := a) (e := .inl (2, N, .inl (upd f i.toNatClampNeg (vp_nar .boolean x)))) hρ⟩
        · cases hz
      · cases hz
    · cases hz
  case lastore =>
    unfold zHls at hz
    split at hz
    · rename_i x i a r
      split at hz
      · rename_i kd N f ha
        split at hz
        · rename_i hc
          simp only [Option.some.injEq, Prod.mk.injEq] at hz
          obtain ⟨rfl, rfl, rfl⟩ := hz
          have ha' := hr a _ ha
          simp only [zvE] at ha'
          exact ⟨_, by simp only [zHls, zvS, List.map_cons, zv, ha', if_pos hc, zvE], hw.put (a := a) (e := .inl (1, N, .inr (.inl (vp_updL f i.toNatClampNeg x)))) hρ⟩
        · cases hz
      · cases hz
    · cases hz
  case aastore =>
    unfold zHas at hz
    split at hz
    · rename_i v i a r
      split at hz
      · rename_i kd N f ci fs ha hv
        split at hz
        · rename_i hc
          simp only [Option.some.injEq, Prod.mk.injEq] at hz
          obtain ⟨rfl, rfl, rfl⟩ := hz
          have ha' := hr a _ ha
          have hv' := hr v _ hv
          simp only [zvE] at ha' hv'
          have hf : (fun j => (va_up f i.toNatClampNeg (some v) j).map ρ) = va_up (fun j => (f j).map ρ) i.toNatClampNeg (some (ρ v)) := by
            funext j
            unfold va_up
            split <;> rfl
          refine ⟨_, ?_, hw.put (a := a) (e := .inl (kd, N, .inr (.inr (.inr (.inr (va_up f i.toNatClampNeg (some v))))))) hρ⟩
          simp only [zHas, zvS, List.map_cons, zv, ha', hv', if_pos hc, zvE, hf]
        · cases hz
      · cases hz
    · cases hz
  case new idx =>
    unfold zHnew at hz
    split at hz
    · rename_i ci hck
      split at hz
      · rename_i hl
        simp only [Option.some.injEq, Prod.mk.injEq] at hz
        obtain ⟨rfl, rfl, rfl⟩ := hz
        refine ⟨_, ?_, hw.new (e := .inr (ci, zdf ci)) (ztab ci).2.2 hρ hs⟩
        simp only [zHnew, hck, if_pos hl, zvE, zdf_v, zvS, List.map_cons, zv, hw.1]
      · cases hz
    · cases hz
  case newarray t =>
    unfold zHna at hz
    split at hz
    · rename_i n r
      split at hz
      · rename_i hc
        split at hz
        · simp only [Option.some.injEq, Prod.mk.injEq] at hz
          obtain ⟨rfl, rfl, rfl⟩ := hz
          refine ⟨_, ?_, hw.new (e := .inl (0, n.toNatClampNeg, .inl (fun _ => 0))) n.toNatClampNeg hρ hs⟩
          simp only [zHna, zvS, List.map_cons, zv, if_pos hc, zvE, hw.1]
        · simp only [Option.some.injEq, Prod.mk.injEq] at hz
          obtain ⟨rfl, rfl, rfl⟩ := hz
          refine ⟨_, ?_, hw.new (e := .inl (1, n.toNatClampNeg, .inr (.inl (fun _ => 0)))) n.toNatClampNeg hρ hs⟩
          simp only [zHna, zvS, List.map_cons, zv, if_pos hc, zvE, hw.1]
        · simp only [Option.some.injEq, Prod.mk.injEq] at hz
          obtain ⟨rfl, rfl, rfl⟩ := hz
          refine ⟨_, ?_, hw.new (e := .inl (2, n.toNatClampNeg, .inl (fun _ => 0))) n.toNatClampNeg hρ hs⟩
          simp only [zHna, zvS, List.map_cons, zv, if_pos hc, zvE, hw.1]
        · cases hz
      · cases hz
    · cases hz
  case anewarray idx =>
    unfold zHnq at hz
    split at hz
    · rename_i n r
      split at hz
      · rename_i kd hkd
        split at hz
        · rename_i hc
          simp only [Option.some.injEq, Prod.mk.injEq] at hz
          obtain ⟨rfl, rfl, rfl⟩ := hz
          refine ⟨_, ?_, hw.new (e := .inl (kd, n.toNatClampNeg, .inr (.inr (.inr (.inr (fun _ => none)))))) n.toNatClampNeg hρ hs⟩
          simp only [zHnq, zvS, List.map_cons, zv, hkd, if_pos hc, zvE, hw.1, Option.map_none]
        · cases hz
      · cases hz
    · cases hz
  case instanceof idx =>
    unfold zHin at hz
    split at hz
    · split at hz
      · rename_i hl
        simp only [Option.some.injEq, Prod.mk.injEq] at hz
        obtain ⟨rfl, rfl, rfl⟩ := hz
        exact ⟨W, by simp only [zHin, zvS, List.map_cons, zv, if_pos hl], hw⟩
      · cases hz
    · rename_i a r
      split at hz
      · rename_i ci fs ha
        split at hz
        · rename_i hc
          simp only [Option.some.injEq, Prod.mk.injEq] at hz
          obtain ⟨rfl, rfl, rfl⟩ := hz
          have ha' := hr a _ ha
          simp only [zvE] at ha'
          exact ⟨W, by simp only [zHin, zvS, List.map_cons, zv, ha', if_pos hc], hw⟩
        · cases hz
      · cases hz
    · cases hz
  case checkcast idx =>
    unfold zHcc at hz
    split at hz
    · rename_i a r
      split at hz
      · rename_i ci fs ha
        split at hz
        · rename_i hc
          simp only [Option.some.injEq, Prod.mk.injEq] at hz
          obtain ⟨rfl, rfl, rfl⟩ := hz
          have ha' := hr a _ ha
          simp only [zvE] at ha'
          exact ⟨W, by simp only [zHcc, zvS, List.map_cons, zv, ha', if_pos hc], hw⟩
        · cases hz
      · cases hz
    · cases hz
  case ldc2_w idx =>
    unfold zHl2 at hz
    split at hz
    · rename_i v hv
      split at hz
      · rename_i hl
        simp only [Option.some.injEq, Prod.mk.injEq] at hz
        obtain ⟨rfl, rfl, rfl⟩ := hz
        exact ⟨W, by simp only [zHl2, hv, if_pos hl, zvS, List.map_cons, zv], hw⟩
      · cases hz
    · cases hz
  case ldc_w idx =>
    unfold zHlw at hz
    split at hz
    · rename_i v hv
      split at hz
      · rename_i hl
        simp only [Option.some.injEq, Prod.mk.injEq] at hz
        obtain ⟨rfl, rfl, rfl⟩ := hz
        exact ⟨W, by simp only [zHlw, hv, if_pos hl, zvS, List.map_cons, zv], hw⟩
      · cases hz
    · cases hz
  case invokespecial idx =>
    unfold zHob at hz
    split at hz
    · rename_i a r
      split at hz
      · rename_i hc
        simp only [Option.some.injEq, Prod.mk.injEq] at hz
        obtain ⟨rfl, rfl, rfl⟩ := hz
        refine ⟨W, ?_, hw⟩
        have h8 := zsum_v (ρ := ρ) r
        unfold zvS at h8
        simp only [zHob, zvS, List.map_cons, zv, h8, if_pos hc]
      · cases hz
    · cases hz
  case invokestatic idx =>
    split at hz
    · rename_i g hg
      cases hz
      unfold zHmm at hg
      split at hg
      · rename_i y x r
        have h8 := zsum_v (ρ := ρ) r
        unfold zvS at h8
        split at hg
        · rename_i hc
          split at hg
          · rename_i h1
            simp only [Option.some.injEq, Prod.mk.injEq] at hg
            obtain ⟨rfl, rfl, rfl⟩ := hg
            exact ⟨W, by simp only [zHmm, zvS, List.map_cons, zv, h8, if_pos hc, if_pos h1], hw⟩
          · rename_i h1
            split at hg
            · rename_i h2
              simp only [Option.some.injEq, Prod.mk.injEq] at hg
              obtain ⟨rfl, rfl, rfl⟩ := hg
              exact ⟨W, by simp only [zHmm, zvS, List.map_cons, zv, h8, if_pos hc, if_neg h1, if_pos h2], hw⟩
            · cases hg
        · cases hg
      · cases hg
    · unfold zHcp at hz
      split at hz
      · rename_i n dp a sp a0 r hmm
        have h8 := zsum_v (ρ := ρ) r
        unfold zvS at h8
        split at hz
        · rename_i hc
          have hmm' : ∀ (st' : List Value) (W' : zW), zHmm o d idx len pc st' W' = none := by
            intro st' W'
            unfold zHmm
            split
            · split
              · rw [hc.2.2.2.1]
                simp
              · rfl
            · rfl
          split at hz
          · rename_i n0 f n1 g ha0 ha1
            split at hz
            · rename_i h4
              simp only [Option.some.injEq, Prod.mk.injEq] at hz
              obtain ⟨rfl, rfl, rfl⟩ := hz
              have ha0' := hr a0 _ ha0
              have ha1' := hr a _ ha1
              simp only [zvE] at ha0' ha1'
              refine ⟨_, ?_, hw.put (a := a) (e := .inl (0, n1, .inl (va_cpy f g sp.toNatClampNeg dp.toNatClampNeg n.toNatClampNeg))) hρ⟩
              simp only [hmm', zHcp, zvS, List.map_cons, zv, h8, if_pos hc, ha0', ha1', if_pos h4, zvE]
            · cases hz
          · rename_i n0 f n1 g ha0 ha1
            split at hz
            · rename_i h4
              simp only [Option.some.injEq, Prod.mk.injEq] at hz
              obtain ⟨rfl, rfl, rfl⟩ := hz
              have ha0' := hr a0 _ ha0
              have ha1' := hr a _ ha1
              simp only [zvE] at ha0' ha1'
              refine ⟨_, ?_, hw.put (a := a) (e := .inl (1, n1, .inr (.inl (va_cpy f g sp.toNatClampNeg dp.toNatClampNeg n.toNatClampNeg)))) hρ⟩
              simp only [hmm', zHcp, zvS, List.map_cons, zv, h8, if_pos hc, ha0', ha1', if_pos h4, zvE]
            · cases hz
          · cases hz
        · cases hz
      · cases hz
end ZV2
end
section
/-! the same run with other addresses: calls, and the whole -/
theorem zcall_v {ρ : Nat → Nat} {B : Nat → Option va_E} {w W : zW} {o len mj : Nat} {i : Instr} {st as r : List Value} (hz : zcall o i len st w = some (mj, as, r)) (hw : zsim ρ B w W) : zcall o i len (zvS ρ st) W = some (mj, zvS ρ as, zvS ρ r) := by
  have hr := hw.2.2.2.1
  cases i <;> simp only [zcall, reduceCtorEq] at hz ⊢
  case invokespecial idx =>
    split at hz
    · rename_i kd a mj' n hcl
      split at hz
      · rename_i hc
        split at hz
        · rename_i b rr hdr
          simp only [Option.some.injEq, Prod.mk.injEq] at hz
          obtain ⟨rfl, rfl, rfl⟩ := hz
          have h8 : zsum ((zvS ρ st).drop (n + 1)) ≤ 8 := by
            unfold zvS
            rw [← List.map_drop]
            rw [show List.map (zv ρ) (st.drop (n + 1)) = zvS ρ (st.drop (n + 1)) from rfl, zsum_v]
            exact hc.2.2
          have hd' : (zvS ρ st).drop n = .ref (ρ b) :: zvS ρ rr := by
            unfold zvS
            rw [← List.map_drop, hdr]
            rfl
          rw [if_pos ⟨hc.1, hc.2.1, h8⟩, hd']
          simp only [zvS, List.map_cons, List.map_reverse, List.map_take, zv]
        · cases hz
      · cases hz
    · cases hz
  case invokestatic idx =>
    split at hz
    · rename_i kd a mj' n hcl
      split at hz
      · rename_i hc
        simp only [Option.some.injEq, Prod.mk.injEq] at hz
        obtain ⟨rfl, rfl, rfl⟩ := hz
        have h8 : zsum ((zvS ρ st).drop n) ≤ 8 := by
          unfold zvS
          rw [← List.map_drop]
          rw [show List.map (zv ρ) (st.drop n) = zvS ρ (st.drop n) from rfl, zsum_v]
          exact hc.2.2.2
        have hl : n ≤ (zvS ρ st).length := by unfold zvS; rw [List.length_map]; exact hc.2.2.1
        rw [if_pos ⟨hc.1, hc.2.1, hl, h8⟩]
        simp only [zvS, List.map_reverse, List.map_take, List.map_drop]
      · cases hz
    · cases hz
  case invokevirtual idx =>
    split at hz
    · rename_i kd0 a0 mj0 n hcl0
      split at hz
      · rename_i hc
        split at hz
        · rename_i b rr hdr
          split at hz
          · rename_i ci fs hbo
            split at hz
            · rename_i kd ci' mj' n' hcl
              split at hz
              · rename_i hc2
                simp only [Option.some.injEq, Prod.mk.injEq] at hz
                obtain ⟨rfl, rfl, rfl⟩ := hz
                have h8 : zsum ((zvS ρ st).drop (n + 1)) ≤ 8 := by
                  unfold zvS
                  rw [← List.map_drop]
                  rw [show List.map (zv ρ) (st.drop (n + 1)) = zvS ρ (st.drop (n + 1)) from rfl, zsum_v]
                  exact hc.2
                have hd' : (zvS ρ st).drop n = .ref (ρ b) :: zvS ρ rr := by
                  unfold zvS
                  rw [← List.map_drop, hdr]
                  rfl
                have hbo' := hr b _ hbo
                simp only [zvE] at hbo'
                rw [if_pos ⟨hc.1, h8⟩, hd']
                simp only [hbo', hcl, if_pos hc2]
                simp only [zvS, List.map_cons, List.map_reverse, List.map_take, zv]
              · cases hz
            · cases hz
          · cases hz
        · cases hz
      · cases hz
    · cases hz
theorem zen_v {ρ : Nat → Nat} : ∀ as : List Value, zen (zvS ρ as) = zvL ρ (zen as)
  | [] => rfl
  | v :: as => by
    have ih := zen_v (ρ := ρ) as
    unfold zvS at ih
    simp only [zvS, List.map_cons, zen, zv_cat]
    split
    · simp only [zvL, List.map_cons, Option.map_some, Option.map_none, ih]
    · simp only [zvL, List.map_cons, Option.map_some, ih]
theorem zvL_len {ρ : Nat → Nat} (L : zL) : (zvL ρ L).length = L.length := List.length_map _
theorem zin_v {ρ : Nat → Nat} (mL : Nat) (as : List Value) : zin mL (zvS ρ as) = zvL ρ (zin mL as) := by
  unfold zin
  rw [zen_v, zvL_len]
  unfold zvL
  rw [List.map_append, List.map_replicate]
  rfl
/-- THE SHIFT: the same run, where the cells lie elsewhere -/
theorem zrun_v {ρ : Nat → Nat} {B : Nat → Option va_E} (hρ : ∀ a b, ρ a = ρ b → a = b) (hs : ∀ n, 1 ≤ n → ρ (n + 1) = ρ n + 1) : ∀ (f d mi pc : Nat) (L : zL) (st : List Value) (w W : zW) (r : Option Value) (w1 : zW), zrun f d mi pc L st w = some (r, w1) → zsim ρ B w W → ∃ W1, zrun f d mi pc (zvL ρ L) (zvS ρ st) W = some (r.map (zv ρ), W1) ∧ zsim ρ B w1 W1
  | 0, d, mi, pc, L, st, w, W, r, w1, h, hw => by simp [zrun] at h
  | f + 1, d, mi, pc, L, st, w, W, r, w1, h, hw => by
    unfold zrun at h
    cases hM : zMt[mi]? with
    | none => rw [hM] at h; cases h
    | some M =>
      obtain ⟨y, b, mL, ret, o, ini⟩ := M
      rw [hM] at h
      dsimp only at h
      cases hd : decode b pc with
      | error x => rw [hd] at h; cases h
      | ok x =>
        obtain ⟨i, len⟩ := x
        rw [hd] at h
        dsimp only at h
        cases he : zend ret i len st with
        | some r' =>
          rw [he] at h
          simp only [Option.some.injEq, Prod.mk.injEq] at h
          obtain ⟨rfl, rfl⟩ := h
          exact ⟨W, by simp only [zrun, hM, hd, zend_v he], hw⟩
        | none =>
          rw [he] at h
          dsimp only at h
          cases hA : zA mL i len pc L st with
          | some x =>
            obtain ⟨pc', L', st'⟩ := x
            rw [hA] at h
            dsimp only at h
            obtain ⟨W1, h1, h2⟩ := zrun_v hρ hs f d mi pc' L' st' w W r w1 h hw
            exact ⟨W1, by simp only [zrun, hM, hd, zA_ex hA, zA_v hA, h1], h2⟩
          | none =>
            rw [hA] at h
            dsimp only at h
            cases hH : zH o ini d i len pc st w with
            | some x =>
              obtain ⟨pc', st', w2⟩ := x
              rw [hH] at h
              dsimp only at h
              obtain ⟨W2, g1, g2⟩ := zH_v hρ hs hH hw
              obtain ⟨W1, h1, h2⟩ := zrun_v hρ hs f d mi pc' L st' w2 W2 r w1 h g2
              obtain ⟨e1, e2⟩ := zH_ex hH
              exact ⟨W1, by simp only [zrun, hM, hd, e1, e2, g1, h1], h2⟩
            | none =>
              rw [hH] at h
              dsimp only at h
              cases hc : zcall o i len st w with
              | none => rw [hc] at h; cases h
              | some x =>
                obtain ⟨mj, as, rr⟩ := x
                rw [hc] at h
                dsimp only at h
                obtain ⟨e1, e2, e3⟩ := zcall_ex hc
                cases d with
                | zero => cases h
                | succ d' =>
                  dsimp only at h
                  cases hM' : zMt[mj]? with
                  | none => rw [hM'] at h; cases h
                  | some M' =>
                    obtain ⟨y', b', mL', ret', o', ini'⟩ := M'
                    rw [hM'] at h
                    dsimp only at h
                    split at h
                    · rename_i hen
                      cases hr : zrun f d' mj 0 (zin mL' as) [] w with
                      | none => rw [hr] at h; cases h
                      | some x =>
                        obtain ⟨v, w2⟩ := x
                        rw [hr] at h
                        dsimp only at h
                        obtain ⟨W2, g1, g2⟩ := zrun_v hρ hs f d' mj 0 (zin mL' as) [] w W v w2 hr hw
                        obtain ⟨W1, h1, h2⟩ := zrun_v hρ hs f (d' + 1) mi (pc + 3) L (v.toList ++ rr) w2 W2 r w1 h g2
                        have hen' : (zen (zvS ρ as)).length ≤ mL' := by rw [zen_v, zvL_len]; exact hen
                        have hv : zvS ρ (v.toList ++ rr) = (v.map (zv ρ)).toList ++ zvS ρ rr := by
                          cases v <;> rfl
                        rw [hv] at h1
                        have g1' : zrun f d' mj 0 (zin mL' (zvS ρ as)) [] W = some (v.map (zv ρ), W2) := by rw [zin_v]; exact g1
                        exact ⟨W1, by simp only [zrun, hM, hd, e1, e2, e3, zcall_v hc hw, hM', if_pos hen', g1', h1], h2⟩
                    · cases h
/-- THE OVERLAY: what isn't touched may lie beside -/
def zov (B : Nat → Option va_E) (w : zW) : zW := (fun a => (w.1 a).or (B a), w.2)
theorem zv_id (v : Value) : zv id v = v := by cases v <;> rfl
theorem zvS_id (st : List Value) : zvS id st = st := by
  unfold zvS
  rw [show zv id = id from funext zv_id]
  exact List.map_id _
theorem zvL_id (L : zL) : zvL id L = L := by
  unfold zvL
  rw [show Option.map (zv id) = id from funext (fun x => by cases x <;> simp [zv_id])]
  exact List.map_id _
theorem zvE_id (e : va_E) : zvE id e = e := by
  unfold zvE
  split
  · rename_i k N f
    rw [show (fun i => Option.map id (f i)) = f from funext (fun i => by simp)]
  · rename_i ci fs
    rw [show List.map (zv id) fs = fs from zvS_id fs]
  · rfl
theorem zov_sim {B : Nat → Option va_E} {w : zW} (h : 1 ≤ w.2.1) : zsim id B w (zov B w) := by
  refine ⟨rfl, rfl, h, fun a e he => ?_, fun q hq => ?_⟩
  · rw [zvE_id]
    simp [zov, he]
  · cases hw : w.1 q with
    | none => simp [zov, hw]
    | some e => exact absurd rfl (hq q e hw)
theorem zov_of {B : Nat → Option va_E} {w W : zW} (h : zsim id B w W) : W = zov B w := by
  obtain ⟨h1, h2, h3, h4, h5⟩ := h
  have e1 : W.1 = (zov B w).1 := by
    funext q
    cases hw : w.1 q with
    | none => simp only [zov, hw, Option.none_or]; exact h5 q (fun a e he hq => by subst hq; rw [show id a = a from rfl, he] at hw; cases hw)
    | some e => simp only [zov, hw, Option.some_or]; have := h4 q e hw; rw [zvE_id] at this; exact this
  exact Prod.ext e1 (Prod.ext h1 h2)
theorem zrun_ov {B : Nat → Option va_E} {f d mi pc : Nat} {L : zL} {st : List Value} {w w1 : zW} {r : Option Value} (hn : 1 ≤ w.2.1) (h : zrun f d mi pc L st w = some (r, w1)) : zrun f d mi pc L st (zov B w) = some (r, zov B w1) := by
  obtain ⟨W1, h1, h2⟩ := zrun_v (ρ := id) (B := B) (fun _ _ h => h) (fun _ _ => rfl) f d mi pc L st w (zov B w) r w1 h (zov_sim hn)
  rw [zvL_id, zvS_id, zov_of h2] at h1
  rw [h1]
  cases r <;> simp [zv_id]
theorem zov_up {B : Nat → Option va_E} {h : Nat → Option va_E} {a : Nat} {e : va_E} {q : Nat × Nat} : (va_up (zov B (h, q)).1 a (some e), q) = zov B (va_up h a (some e), q) := by
  unfold zov
  refine Prod.ext ?_ rfl
  funext b
  by_cases hb : b = a
  · subst hb
    simp [va_up]
  · simp [va_up, hb]
end
section
/-! THE CLAIM OUT OF ONE WALK OF THE LAW'S BODY. Your part is whole_start (and what it stands on); all else here is the same for every law, but numbers. -/
def R_law : String := "RigidRanksLaw"
def lw_P (b : Addr) (xs : List Int32) (args : Array Value) (s : State) : Prop := args = #[.ref b] ∧ s.IntsAt b xs ∧ xs.length ≤ 5 ∧ (Jvm.Cond.and given_1 narrow_1).before args s = true
def lw_Q (_ : Array Value) (s : State) (o : Outcome) (t : State) : Prop := o = .returned (some (.int 1)) ∧ Framed s o t [] 600000 7302250
def lw_Z (below : List Frame) (a : Array Value) (s : State) : State → Prop := fun t => ∃ o, t.status = .running ∧ Ended t below o ∧ lw_Q a s o t
/-- the law's own end, with 1 on the stack, nothing written that was there before, its room as the claim has it -/
theorem lw_ret {p : Program} {l : Launch} {e : Env} {s : State} {m : MethodId} {below : List Frame} {meth : Method} {c : Code} {b : Nat} (hx : p.tables.exec = Jvm.exec) (hb : c.code = code) (hr : meth.sig.returnType = ret) (hlocks : meth.locks = false) {pc : Nat} {H : Heap} {ls : Array Slot} (hdg : decode code pc = .ok (.ireturn, 1)) : W p l e room_1 s m #[Value.ref b] below meth c H [] 600000 7302250 (lw_Z below #[Value.ref b] s) (F0 m pc ls [.int 1]) := by
  intro T hT X
  obtain ⟨fs, hret, hrun, hended, hW, hframe⟩ := X.leave (v := some (.int 1)) (hlocks := hlocks) (fun h => by rw [hr] at h; cases h)
  have hmeth' : T.vm.method? m = some meth := X.method'
  refine ⟨T.setFrames fs, ?_, .returned (some (.int 1)), hrun, hended, rfl, ⟨_, rfl⟩, hW, hframe⟩
  jvm_step X.here [X.here.top, hx, hb, hdg, hmeth', hr, ret, narrow_b1]
  (try refine ⟨rfl, ?_⟩); (try refine ⟨rfl, ?_⟩)
  first | (intro acts; rw [hret _ acts rfl rfl rfl]) | rw [hret _ _ rfl rfl rfl]
  exact Steps.refl _
/-- what holds at the law's entry: the machine, the code, the tables' words (any of lw_tbl by 'hts w (by decide +kernel)'), the script of L ints xs at the cell b, what the Statement gives of the start (any of its parts by flat_of_before) -/
def lw_At (p : Program) (s : State) (m : MethodId) (meth : Method) (c : Code) (b L : Nat) (xs : Nat → Int32) : Prop :=
  p.tables.exec = Jvm.exec ∧ c.code = code ∧ meth.sig.returnType = ret ∧ c.maxLocals = 4 ∧ s.vm.findClass R_law = some m.cls ∧ (∀ w ∈ lw_tbl, w.before #[Value.ref b] s = true) ∧ va_X b L xs s s.heap ∧ b < s.heap.size ∧ meth.locks = false ∧ (Jvm.Cond.and given_1 narrow_1).before #[Value.ref b] s = true

/-- the script of L ints xs at address 0, nothing else -/
def z1w (L : Nat) (xs : Nat → Int32) : zW := (fun a => if a = 0 then some (.inl (9, L, .inl xs)) else none, 1, 0)
def z1r (b z0 : Nat) (a : Nat) : Nat := if a = 0 then b else z0 + (a - 1)
theorem z1r_inj {b z0 : Nat} (h : b < z0) : ∀ a a', z1r b z0 a = z1r b z0 a' → a = a' := by
  intro a a' h1
  unfold z1r at h1
  split at h1 <;> split at h1 <;> omega
theorem z1r_succ {b z0 : Nat} : ∀ n, 1 ≤ n → z1r b z0 (n + 1) = z1r b z0 n + 1 := by
  intro n hn
  unfold z1r
  rw [if_neg (by omega), if_neg (by omega)]
  omega
theorem zArr {args : Array Value} {s : State} {ty : FieldType} (hp : ty = .int ∨ ty = .long ∨ ty = .boolean) (h : (Cond.arrayClass ty).before args s = true) : ∃ cA : ClassId, ArrOfT s cA ty ∧ va_RA s cA ty := by
  obtain ⟨c, k, comp, h1, h2, h3⟩ := Cond.arrayClass_spec h
  refine ⟨c, fun n z => ⟨fun k h => (by cases h), k, h2, comp, h3⟩, ?_⟩
  rcases hp with rfl | rfl | rfl <;> exact h1
theorem zArq {args : Array Value} {s : State} {C : String} (h : (Cond.arrayOver (.object C)).before args s = true) : ∃ cA : ClassId, ArrOfT s cA (.object C) ∧ va_RA s cA (.object C) := by
  obtain ⟨comp, c, k, h1, -, h2, h3, h4⟩ := Cond.arrayOver_spec h
  exact ⟨c, fun n z => ⟨fun k h => (by cases h), k, h2, comp, h3⟩, k, comp, h2, h3, h1, h4⟩
theorem zlays_lw {ci : Nat} {C : String} {T : u_T} {N : Nat} (h : vwCl[ci]? = some (C, T, N)) : ∀ w ∈ u_ws C T N, w ∈ zT := zlays_in h
theorem zinst : ∀ ci, ci < 6 → Cond.instantiable (ztab ci).1 (ztab ci).2.2 ∈ zT := by
  have h : (List.range 6).all (fun ci => decide (Cond.instantiable (ztab ci).1 (ztab ci).2.2 ∈ zT)) = true := by decide +kernel
  intro ci hci
  exact of_decide_eq_true (List.all_eq_true.mp h ci (List.mem_range.mpr hci))
theorem zextra : Cond.arrayOver (.object RX2) ∈ lw_tbl ∧ Cond.arrayOver (.object RX5) ∈ lw_tbl ∧ Cond.castable RX0 RX2 ∈ lw_tbl ∧ Cond.castable RX3 RX2 ∈ lw_tbl ∧ Cond.castable RX3 RX3 ∈ lw_tbl ∧ (∀ x ∈ zDecl, Cond.declares x ∈ lw_tbl) ∧ Cond.methodLinkNest RX6 11 yX1_init RX6 ∈ lw_tbl := by decide +kernel
theorem znocast : Cond.not (.castable RX0 RX3) ∈ flatC (Jvm.Cond.and given_1 narrow_1) := by decide +kernel
/-- what the law's entry says of the tables -/
theorem z_tables {p : Program} {s : State} {m : MethodId} {meth : Method} {c : Code} {b L : Nat} {xs : Nat → Int32} (C0 : lw_At p s m meth c b L xs) : ∃ Y : zY, zK Y s := by
  obtain ⟨hx, hb, hr, hml, hown, hts, hX, hbl, hlocks, hgv⟩ := C0
  have hz : ∀ w ∈ zT, w.before #[Value.ref b] s = true := fun w h => lz_hts hts w (zT_in h)
  have hcls : ∀ ci, ∃ q : ClassId × (Nat → Nat), ci < 6 → u_Kn s (ztab ci).1 (ztab ci).2.1 (ztab ci).2.2 q.1 q.2 := by
    intro ci
    by_cases hci : ci < 6
    · obtain ⟨c0, i0, h⟩ := u_known (N := (ztab ci).2.2) hz (zlays_in (ztab_in hci)) (hz _ (zinst ci hci))
      exact ⟨(c0, i0), fun _ => h⟩
    · exact ⟨(0, fun _ => 0), fun h => absurd h hci⟩
  obtain ⟨cI, hI⟩ := zArr (Or.inl rfl) (hz _ zarrc.1)
  obtain ⟨cJ, hJ⟩ := zArr (Or.inr (Or.inl rfl)) (hz _ zarrc.2.1)
  obtain ⟨cZ, hZ⟩ := zArr (Or.inr (Or.inr rfl)) (hz _ zarrc.2.2)
  obtain ⟨e1, e2, e3, e4, e5, e6, e7⟩ := zextra
  obtain ⟨cM, hM⟩ := zArq (hts _ e1)
  obtain ⟨cS, hS⟩ := zArq (hts _ e2)
  refine ⟨((fun ci => (Classical.choose (hcls ci)).1, fun ci => (Classical.choose (hcls ci)).2), fun k => if k = 0 then cI else if k = 1 then cJ else if k = 2 then cZ else if k = 3 then cM else if k = 4 then cS else cI), ⟨fun ci q hq => ?_, fun k q hq => ?_⟩, rfl, va_AO.of (hts _ e1), va_AO.of (hts _ e2), va_Nw.of rfl (hts _ e3), va_Nw.of rfl (hts _ e4), va_Nw.of rfl (hts _ e5), va_Nc.of (flat_of_before _ hgv _ znocast), fun x hx => va_Nw.of rfl (hts _ (e6 x hx)), va_Nw.of rfl (hts _ e7)⟩
  · obtain ⟨hci, rfl⟩ := ztab_ok hq
    exact Classical.choose_spec (hcls ci) hci
  · match k, hq with
    | 0, hq => cases hq; exact hI
    | 1, hq => cases hq; exact hJ
    | 2, hq => cases hq; exact hZ
    | 3, hq => cases hq; exact hM
    | 4, hq => cases hq; exact hS
    | k + 5, hq => simp [ztys] at hq
theorem zMt_law : zMt[169]? = some (yL_law, cL_law, 4, some .boolean, 8, false) := rfl
/-- THE LAW OUT OF A RUN OF THE SMALL MACHINE over the script alone -/
theorem z_law {f d : Nat} {w1 : zW} {p : Program} {e : Env} {s : State} {m : MethodId} {below : List Frame} {meth : Method} {c : Code} (l : Launch) {b L : Nat} {xs : Nat → Int32} (C0 : lw_At p s m meth c b L xs)
    (hz : zrun f d 169 0 (zin 4 [.ref 0]) [] (z1w L xs) = some (some (.int 1), w1)) (hd : d ≤ 1000) (hc : w1.2.1 ≤ 600000) (hsl : w1.2.2 ≤ 7302250) :
    W p l e room_1 s m #[Value.ref b] below meth c s.heap [] 0 0 (lw_Z below #[Value.ref b] s) (entryFrame m ([Value.ref b] : List Value).toArray 4) := by
  obtain ⟨Y, hK⟩ := z_tables C0
  obtain ⟨hx, hb, hr, hml, hown, hts, hX, hbl, hlocks, hgv⟩ := C0
  have hT : ∀ w ∈ zT, w.before #[Value.ref b] s = true := fun w h => lz_hts hts w (zT_in h)
  have hw0 : zsim (z1r b s.heap.size) (fun _ => none) (z1w L xs) (fun a => if a = b then some (.inl (9, L, .inl xs)) else none, s.heap.size, 0) := by
    refine ⟨rfl, rfl, Nat.le_refl _, fun a x hx => ?_, fun q hq => ?_⟩
    · simp only [z1w] at hx
      split at hx
      · rename_i ha
        subst ha
        simp only [Option.some.injEq] at hx
        subst hx
        simp [z1r, zvE]
      · cases hx
    · have h0 : b ≠ q := hq 0 (.inl (9, L, .inl xs)) rfl
      simp [Ne.symm h0]
  obtain ⟨W1, hrun, hsim⟩ := zrun_v (z1r_inj hbl) z1r_succ f d 169 0 _ _ _ _ _ _ hz hw0
  have h1 : W1.2.1 ≤ s.heap.size + 600000 ∧ W1.2.2 ≤ 7302250 := by
    refine ⟨?_, by rw [hsim.2.1]; exact hsl⟩
    rw [hsim.1]
    have := hsim.2.2.1
    unfold z1r
    rw [if_neg (by omega)]
    omega
  rw [lg_entry_eq]
  refine z_sound Y s.heap.size l f d 169 0 _ _ _ _ W1 _ zMt_law hrun p e room_1 s m _ below meth c s.heap [] 0 0 _ _ ⟨hx, hb, hml, hr, hlocks, hT, hown, fun h => (by cases h), hK, Nat.le_refl _⟩ ?_ va_S.rf ?_ ?_ ?_ ?_ ?_ ?_
  · refine ⟨rfl, [], fun k q h => by simp at h, ⟨fun i j p q h => by simp at h, fun k q h => by simp at h⟩, fun a x hx => Or.inr ?_⟩
    dsimp only at hx
    split at hx
    · rename_i ha
      subst ha
      simp only [Option.some.injEq] at hx
      subst hx
      exact ⟨L, xs, rfl, hbl, hX⟩
    · cases hx
  · exact zR_entry (vs := [Value.ref b]) (n := 4) (by show 1 ≤ 4; decide)
  · exact Nat.le_trans hd (by decide)
  · show 60 * d ≤ 84000
    omega
  · show 0 + (W1.2.1 - s.heap.size) ≤ 600000
    omega
  · show 0 + (W1.2.2 - 0) ≤ 7302250
    omega
  · intro H1 locs1 pc1 ls1 st1 i hdc hend hw1 hS1
    cases i <;> simp only [zend, reduceCtorEq] at hend
    case ireturn =>
      split at hend
      · rename_i hret
        cases hret
      · rename_i x hret
        split at hend
        · simp only [Option.some.injEq, Value.int.injEq, Option.map_some, zv] at hend
          subst hend
          refine va_forget (fun q hq => hS1.2.2 q hq) ?_
          refine W.widen (k := 600000) (n := 7302250) (by show 0 + (W1.2.1 - s.heap.size) ≤ 600000; omega) (by show 0 + (W1.2.2 - 0) ≤ 7302250; omega) ?_
          exact lw_ret hx hb hr hlocks hdc
        · cases hend
      · cases hend
end
section
def zdl_0 : List (Nat × Instr × Nat) := [(0, .iload_n 0, 1), (1, .iload_n 0, 1), (2, .iconst 1, 1), (3, .iushr, 1), (4, .ldc_w 265, 3), (7, .iand, 1), (8, .isub, 1), (9, .istore_n 0, 1), (10, .iload_n 0, 1), (11, .ldc_w 266, 3), (14, .iand, 1), (15, .iload_n 0, 1), (16, .iconst 2, 1), (17, .iushr, 1), (18, .ldc_w 266, 3), (21, .iand, 1), (22, .iadd, 1), (23, .istore_n 0, 1), (24, .iload_n 0, 1), (25, .iload_n 0, 1), (26, .iconst 4, 1), (27, .iushr, 1), (28, .iadd, 1), (29, .ldc_w 267, 3), (32, .iand, 1), (33, .istore_n 0, 1), (34, .iload_n 0, 1), (35, .iload_n 0, 1), (36, .bipush 8, 2), (38, .iushr, 1), (39, .iadd, 1), (40, .istore_n 0, 1), (41, .iload_n 0, 1), (42, .iload_n 0, 1), (43, .bipush 16, 2), (45, .iushr, 1), (46, .iadd, 1), (47, .istore_n 0, 1), (48, .iload_n 0, 1), (49, .bipush 63, 2), (51, .iand, 1), (52, .ireturn, 1)]
def zdl_1 : List (Nat × Instr × Nat) := [(0, .iconst 0, 1), (1, .istore_n 2, 1), (2, .aload_n 0, 1), (3, .arraylength, 1), (4, .istore_n 3, 1), (5, .iload_n 2, 1), (6, .iload_n 3, 1), (7, .if_icmp .ge 13, 3), (10, .aload_n 0, 1), (11, .iload_n 2, 1), (12, .iload_n 1, 1), (13, .iastore, 1), (14, .iinc 2 1, 3), (17, .goto (-12), 3), (20, .return_, 1)]
def zdl_2 : List (Nat × Instr × Nat) := [(0, .aload_n 0, 1), (1, .aload_n 1, 1), (2, .invokespecial 3, 3), (5, .aload_n 0, 1), (6, .sipush 128, 3), (9, .newarray .int, 2), (11, .putfield 11, 3), (14, .aload_n 0, 1), (15, .sipush 1664, 3), (18, .newarray .int, 2), (20, .putfield 15, 3), (23, .return_, 1)]
def zdl_3 : List (Nat × Instr × Nat) := [(0, .aload_n 0, 1), (1, .getfield 24, 3), (4, .getfield 69, 3), (7, .iconst 1, 1), (8, .if_icmp .ne 7, 3), (11, .iconst 0, 1), (12, .goto 25, 3), (15, .aload_n 0, 1), (16, .getfield 24, 3), (19, .invokevirtual 28, 3), (22, .invokestatic 34, 3), (25, .aload_n 0, 1), (26, .aload_n 0, 1), (27, .getfield 24, 3), (30, .invokevirtual 72, 3), (33, .invokevirtual 75, 3), (36, .isub, 1), (37, .ireturn, 1)]
def zdl_4 : List (Nat × Instr × Nat) := [(0, .aload_n 0, 1), (1, .getfield 53, 3), (4, .iconst 0, 1), (5, .invokestatic 56, 3), (8, .iconst 0, 1), (9, .istore_n 2, 1), (10, .iload_n 2, 1), (11, .aload_n 0, 1), (12, .getfield 24, 3), (15, .invokevirtual 28, 3), (18, .if_icmp .gt 37, 3), (21, .aload_n 0, 1), (22, .getfield 62, 3), (25, .iload_n 1, 1), (26, .iaload, 1), (27, .aload_n 0, 1), (28, .getfield 11, 3), (31, .iload_n 2, 1), (32, .iaload, 1), (33, .iand, 1), (34, .invokestatic 18, 3), (37, .iload_n 2, 1), (38, .invokestatic 34, 3), (41, .if_icmp .ne 8, 3), (44, .aload_n 0, 1), (45, .iload_n 2, 1), (46, .invokevirtual 65, 3), (49, .iinc 2 1, 3), (52, .goto (-42), 3), (55, .return_, 1)]
def zdl_5 : List (Nat × Instr × Nat) := [(0, .iconst 0, 1), (1, .istore_n 2, 1), (2, .iload_n 2, 1), (3, .aload_n 0, 1), (4, .getfield 24, 3), (7, .getfield 69, 3), (10, .if_icmp .ge 33, 3), (13, .iconst 1, 1), (14, .iload_n 2, 1), (15, .ishl, 1), (16, .istore_n 3, 1), (17, .iload_n 1, 1), (18, .iload_n 3, 1), (19, .iand, 1), (20, .ifCond .eq 17, 3), (23, .aload_n 0, 1), (24, .getfield 53, 3), (27, .iload_n 2, 1), (28, .dup2, 1), (29, .iaload, 1), (30, .iload_n 1, 1), (31, .iload_n 3, 1), (32, .iconst (-1), 1), (33, .ixor, 1), (34, .iand, 1), (35, .ior, 1), (36, .iastore, 1), (37, .iinc 2 1, 3), (40, .goto (-38), 3), (43, .return_, 1)]
def zdl_6 : List (Nat × Instr × Nat) := [(0, .iconst 2, 1), (1, .iload_n 0, 1), (2, .invokestatic 18, 3), (5, .imul, 1), (6, .iconst 3, 1), (7, .isub, 1), (8, .ireturn, 1)]
def zdl_7 : List (Nat × Instr × Nat) := [(0, .iconst 0, 1), (1, .istore_n 1, 1), (2, .iload_n 1, 1), (3, .aload_n 0, 1), (4, .getfield 24, 3), (7, .invokevirtual 28, 3), (10, .if_icmp .gt 86, 3), (13, .aload_n 0, 1), (14, .getfield 11, 3), (17, .iload_n 1, 1), (18, .iconst 0, 1), (19, .iastore, 1), (20, .aload_n 0, 1), (21, .getfield 15, 3), (24, .iload_n 1, 1), (25, .iload_n 1, 1), (26, .invokestatic 34, 3), (29, .iastore, 1), (30, .iconst 0, 1), (31, .istore_n 2, 1), (32, .iload_n 2, 1), (33, .aload_n 0, 1), (34, .getfield 24, 3), (37, .getfield 37, 3), (40, .if_icmp .ge 50, 3), (43, .iload_n 1, 1), (44, .aload_n 0, 1), (45, .getfield 24, 3), (48, .getfield 41, 3), (51, .iload_n 2, 1), (52, .iaload, 1), (53, .ishr, 1), (54, .iload_n 1, 1), (55, .aload_n 0, 1), (56, .getfield 24, 3), (59, .getfield 44, 3), (62, .iload_n 2, 1), (63, .iaload, 1), (64, .ishr, 1), (65, .iand, 1), (66, .iconst 1, 1), (67, .iand, 1), (68, .iconst 1, 1), (69, .if_icmp .ne 15, 3), (72, .aload_n 0, 1), (73, .getfield 11, 3), (76, .iload_n 1, 1), (77, .dup2, 1), (78, .iaload, 1), (79, .iconst 1, 1), (80, .iload_n 2, 1), (81, .ishl, 1), (82, .ior, 1), (83, .iastore, 1), (84, .iinc 2 1, 3), (87, .goto (-55), 3), (90, .iinc 1 1, 3), (93, .goto (-91), 3), (96, .return_, 1)]
def zdl_8 : List (Nat × Instr × Nat) := [(0, .aload_n 0, 1), (1, .getfield 24, 3), (4, .invokevirtual 28, 3), (7, .istore 4, 2), (9, .iconst 1, 1), (10, .aload_n 0, 1), (11, .getfield 24, 3), (14, .getfield 41, 3), (17, .iload_n 3, 1), (18, .iaload, 1), (19, .ishl, 1), (20, .iconst 1, 1), (21, .aload_n 0, 1), (22, .getfield 24, 3), (25, .getfield 44, 3), (28, .iload_n 3, 1), (29, .iaload, 1), (30, .ishl, 1), (31, .ior, 1), (32, .istore 5, 2), (34, .iload_n 1, 1), (35, .sipush 128, 3), (38, .imul, 1), (39, .istore 6, 2), (41, .iload 5, 2), (43, .istore 7, 2), (45, .iload 7, 2), (47, .iload 4, 2), (49, .if_icmp .gt 30, 3), (52, .aload_n 0, 1), (53, .getfield 15, 3), (56, .iload 6, 2), (58, .iload 7, 2), (60, .iadd, 1), (61, .iaload, 1), (62, .ifCond .ne 5, 3), (65, .iconst 0, 1), (66, .ireturn, 1), (67, .iload 7, 2), (69, .iconst 1, 1), (70, .iadd, 1), (71, .iload 5, 2), (73, .ior, 1), (74, .istore 7, 2), (76, .goto (-31), 3), (79, .iload_n 3, 1), (80, .iconst 1, 1), (81, .iadd, 1), (82, .aload_n 0, 1), (83, .getfield 24, 3), (86, .getfield 37, 3), (89, .if_icmp .ge 66, 3), (92, .aload_n 0, 1), (93, .getfield 15, 3), (96, .iload 6, 2), (98, .aload_n 0, 1), (99, .getfield 15, 3), (102, .iload 6, 2), (104, .sipush 128, 3), (107, .iadd, 1), (108, .sipush 128, 3), (111, .invokestatic 47, 3), (114, .iload 5, 2), (116, .istore 7, 2), (118, .iload 7, 2), (120, .iload 4, 2), (122, .if_icmp .gt 33, 3), (125, .aload_n 0, 1), (126, .getfield 15, 3), (129, .iload 6, 2), (131, .sipush 128, 3), (134, .iadd, 1), (135, .iload 7, 2), (137, .iadd, 1), (138, .dup2, 1), (139, .iaload, 1), (140, .iconst 1, 1), (141, .isub, 1), (142, .iastore, 1), (143, .iload 7, 2), (145, .iconst 1, 1), (146, .iadd, 1), (147, .iload 5, 2), (149, .ior, 1), (150, .istore 7, 2), (152, .goto (-34), 3), (155, .iconst 1, 1), (156, .ireturn, 1)]
def zdl_9 : List (Nat × Instr × Nat) := [(0, .iconst 1, 1), (1, .aload_n 0, 1), (2, .getfield 28, 3), (5, .ishl, 1), (6, .iconst 1, 1), (7, .isub, 1), (8, .ireturn, 1)]
def zdl_10 : List (Nat × Instr × Nat) := [(0, .iconst 1, 1), (1, .aload_n 0, 1), (2, .getfield 24, 3), (5, .ishl, 1), (6, .iconst 1, 1), (7, .isub, 1), (8, .ireturn, 1)]
def zdl_11 : List (Nat × Instr × Nat) := [(0, .iconst 0, 1), (1, .istore_n 2, 1), (2, .iconst 0, 1), (3, .istore_n 3, 1), (4, .iload_n 3, 1), (5, .aload_n 0, 1), (6, .getfield 28, 3), (9, .if_icmp .ge 25, 3), (12, .aload_n 0, 1), (13, .getfield 21, 3), (16, .iload_n 3, 1), (17, .iaload, 1), (18, .iload_n 1, 1), (19, .if_icmp .ne 9, 3), (22, .iload_n 2, 1), (23, .iconst 1, 1), (24, .iload_n 3, 1), (25, .ishl, 1), (26, .ior, 1), (27, .istore_n 2, 1), (28, .iinc 3 1, 3), (31, .goto (-27), 3), (34, .iload_n 2, 1), (35, .ireturn, 1)]
def zdl_12 : List (Nat × Instr × Nat) := [(0, .aload_n 0, 1), (1, .dup, 1), (2, .getfield 28, 3), (5, .iconst 1, 1), (6, .isub, 1), (7, .putfield 28, 3), (10, .aload_n 0, 1), (11, .dup, 1), (12, .getfield 31, 3), (15, .iconst 1, 1), (16, .iadd, 1), (17, .putfield 31, 3), (20, .aload_n 0, 1), (21, .getfield 28, 3), (24, .ireturn, 1)]
def zdl_13 : List (Nat × Instr × Nat) := [(0, .iload_n 1, 1), (1, .iload_n 1, 1), (2, .ineg, 1), (3, .iand, 1), (4, .istore_n 2, 1), (5, .iconst 1, 1), (6, .istore_n 3, 1), (7, .iload_n 3, 1), (8, .aload_n 0, 1), (9, .getfield 24, 3), (12, .if_icmp .ge 48, 3), (15, .iconst 0, 1), (16, .istore 4, 2), (18, .iload 4, 2), (20, .aload_n 0, 1), (21, .getfield 24, 3), (24, .if_icmp .ge 30, 3), (27, .iload_n 2, 1), (28, .iload 4, 2), (30, .ishr, 1), (31, .iconst 1, 1), (32, .iand, 1), (33, .iconst 1, 1), (34, .if_icmp .ne 14, 3), (37, .iload_n 2, 1), (38, .aload_n 0, 1), (39, .iload 4, 2), (41, .invokevirtual 44, 3), (44, .iload_n 1, 1), (45, .iand, 1), (46, .ior, 1), (47, .istore_n 2, 1), (48, .iinc 4 1, 3), (51, .goto (-33), 3), (54, .iinc 3 1, 3), (57, .goto (-50), 3), (60, .iload_n 2, 1), (61, .iload_n 1, 1), (62, .if_icmp .ne 7, 3), (65, .iconst 1, 1), (66, .goto 4, 3), (69, .iconst 0, 1), (70, .ireturn, 1)]
def zdl_14 : List (Nat × Instr × Nat) := [(0, .iload_n 1, 1), (1, .ifCond .lt 15, 3), (4, .iload_n 1, 1), (5, .aload_n 0, 1), (6, .getfield 28, 3), (9, .if_icmp .ge 7, 3), (12, .iconst 1, 1), (13, .goto 4, 3), (16, .iconst 0, 1), (17, .ireturn, 1)]
def zdl_15 : List (Nat × Instr × Nat) := [(0, .iload_n 1, 1), (1, .ifCond .lt 15, 3), (4, .iload_n 1, 1), (5, .aload_n 0, 1), (6, .getfield 24, 3), (9, .if_icmp .ge 7, 3), (12, .iconst 1, 1), (13, .goto 4, 3), (16, .iconst 0, 1), (17, .ireturn, 1)]
def zdl_16 : List (Nat × Instr × Nat) := [(0, .iload_n 1, 1), (1, .ifCond .lt 15, 3), (4, .iload_n 1, 1), (5, .aload_n 0, 1), (6, .invokevirtual 40, 3), (9, .if_icmp .gt 7, 3), (12, .iconst 1, 1), (13, .goto 4, 3), (16, .iconst 0, 1), (17, .ireturn, 1)]
def zdl_17 : List (Nat × Instr × Nat) := [(0, .aload_n 0, 1), (1, .invokespecial 3, 3), (4, .aload_n 0, 1), (5, .bipush 21, 2), (7, .newarray .int, 2), (9, .putfield 9, 3), (12, .aload_n 0, 1), (13, .bipush 12, 2), (15, .newarray .int, 2), (17, .putfield 15, 3), (20, .aload_n 0, 1), (21, .bipush 12, 2), (23, .newarray .int, 2), (25, .putfield 18, 3), (28, .aload_n 0, 1), (29, .bipush 12, 2), (31, .newarray .int, 2), (33, .putfield 21, 3), (36, .aload_n 0, 1), (37, .iconst 1, 1), (38, .putfield 24, 3), (41, .aload_n 0, 1), (42, .iconst 0, 1), (43, .putfield 28, 3), (46, .aload_n 0, 1), (47, .iconst 1, 1), (48, .putfield 31, 3), (51, .return_, 1)]
def zdl_18 : List (Nat × Instr × Nat) := [(0, .aload_n 0, 1), (1, .iload_n 1, 1), (2, .invokevirtual 44, 3), (5, .iload_n 2, 1), (6, .ishr, 1), (7, .iconst 1, 1), (8, .iand, 1), (9, .iconst 1, 1), (10, .if_icmp .ne 7, 3), (13, .iconst 1, 1), (14, .goto 4, 3), (17, .iconst 0, 1), (18, .ireturn, 1)]
def zdl_19 : List (Nat × Instr × Nat) := [(0, .aload_n 0, 1), (1, .getfield 28, 3), (4, .istore_n 3, 1), (5, .aload_n 0, 1), (6, .getfield 15, 3), (9, .iload_n 3, 1), (10, .iload_n 1, 1), (11, .iload_n 2, 1), (12, .invokestatic 48, 3), (15, .iastore, 1), (16, .aload_n 0, 1), (17, .getfield 18, 3), (20, .iload_n 3, 1), (21, .iload_n 1, 1), (22, .iload_n 2, 1), (23, .invokestatic 54, 3), (26, .iastore, 1), (27, .aload_n 0, 1), (28, .getfield 21, 3), (31, .iload_n 3, 1), (32, .iconst 0, 1), (33, .iastore, 1), (34, .aload_n 0, 1), (35, .dup, 1), (36, .getfield 28, 3), (39, .iconst 1, 1), (40, .iadd, 1), (41, .putfield 28, 3), (44, .aload_n 0, 1), (45, .dup, 1), (46, .getfield 31, 3), (49, .iconst 1, 1), (50, .iadd, 1), (51, .putfield 31, 3), (54, .iload_n 3, 1), (55, .ireturn, 1)]
def zdl_20 : List (Nat × Instr × Nat) := [(0, .iload_n 1, 1), (1, .iconst 3, 1), (2, .imul, 1), (3, .istore 5, 2), (5, .aload_n 0, 1), (6, .getfield 9, 3), (9, .iload 5, 2), (11, .iaload, 1), (12, .iload_n 2, 1), (13, .if_icmp .ne 32, 3), (16, .aload_n 0, 1), (17, .getfield 9, 3), (20, .iload 5, 2), (22, .iconst 1, 1), (23, .iadd, 1), (24, .iaload, 1), (25, .iload_n 3, 1), (26, .if_icmp .ne 19, 3), (29, .aload_n 0, 1), (30, .getfield 9, 3), (33, .iload 5, 2), (35, .iconst 2, 1), (36, .iadd, 1), (37, .iaload, 1), (38, .iload 4, 2), (40, .if_icmp .ne 5, 3), (43, .iconst 0, 1), (44, .ireturn, 1), (45, .aload_n 0, 1), (46, .getfield 9, 3), (49, .iload 5, 2), (51, .iload_n 2, 1), (52, .iastore, 1), (53, .aload_n 0, 1), (54, .getfield 9, 3), (57, .iload 5, 2), (59, .iconst 1, 1), (60, .iadd, 1), (61, .iload_n 3, 1), (62, .iastore, 1), (63, .aload_n 0, 1), (64, .getfield 9, 3), (67, .iload 5, 2), (69, .iconst 2, 1), (70, .iadd, 1), (71, .iload 4, 2), (73, .iastore, 1), (74, .aload_n 0, 1), (75, .dup, 1), (76, .getfield 31, 3), (79, .iconst 1, 1), (80, .iadd, 1), (81, .putfield 31, 3), (84, .iconst 1, 1), (85, .ireturn, 1)]
def zdl_21 : List (Nat × Instr × Nat) := [(0, .iconst 0, 1), (1, .istore_n 2, 1), (2, .iconst 0, 1), (3, .istore_n 3, 1), (4, .iload_n 3, 1), (5, .aload_n 0, 1), (6, .getfield 28, 3), (9, .if_icmp .ge 54, 3), (12, .aload_n 0, 1), (13, .getfield 15, 3), (16, .iload_n 3, 1), (17, .iaload, 1), (18, .iload_n 1, 1), (19, .if_icmp .ne 17, 3), (22, .iload_n 2, 1), (23, .iconst 1, 1), (24, .aload_n 0, 1), (25, .getfield 18, 3), (28, .iload_n 3, 1), (29, .iaload, 1), (30, .ishl, 1), (31, .ior, 1), (32, .istore_n 2, 1), (33, .goto 24, 3), (36, .aload_n 0, 1), (37, .getfield 18, 3), (40, .iload_n 3, 1), (41, .iaload, 1), (42, .iload_n 1, 1), (43, .if_icmp .ne 14, 3), (46, .iload_n 2, 1), (47, .iconst 1, 1), (48, .aload_n 0, 1), (49, .getfield 15, 3), (52, .iload_n 3, 1), (53, .iaload, 1), (54, .ishl, 1), (55, .ior, 1), (56, .istore_n 2, 1), (57, .iinc 3 1, 3), (60, .goto (-56), 3), (63, .iload_n 2, 1), (64, .ireturn, 1)]
def zdl_22 : List (Nat × Instr × Nat) := [(0, .aload_n 0, 1), (1, .iload_n 1, 1), (2, .putfield 24, 3), (5, .aload_n 0, 1), (6, .iconst 0, 1), (7, .putfield 28, 3), (10, .aload_n 0, 1), (11, .getfield 9, 3), (14, .iconst 0, 1), (15, .invokestatic 34, 3), (18, .aload_n 0, 1), (19, .dup, 1), (20, .getfield 31, 3), (23, .iconst 1, 1), (24, .iadd, 1), (25, .putfield 31, 3), (28, .return_, 1)]
def zdl_23 : List (Nat × Instr × Nat) := [(0, .iconst 0, 1), (1, .istore_n 2, 1), (2, .iload_n 2, 1), (3, .aload_n 0, 1), (4, .getfield 28, 3), (7, .getfield 106, 3), (10, .if_icmp .ge 38, 3), (13, .iconst 1, 1), (14, .iload_n 2, 1), (15, .ishl, 1), (16, .istore_n 3, 1), (17, .iload_n 1, 1), (18, .iload_n 3, 1), (19, .iand, 1), (20, .ifCond .eq 22, 3), (23, .iload_n 1, 1), (24, .iload_n 3, 1), (25, .iconst (-1), 1), (26, .ixor, 1), (27, .iand, 1), (28, .aload_n 0, 1), (29, .getfield 15, 3), (32, .iload_n 2, 1), (33, .iaload, 1), (34, .iconst (-1), 1), (35, .ixor, 1), (36, .iand, 1), (37, .ifCond .eq 5, 3), (40, .iconst 0, 1), (41, .ireturn, 1), (42, .iinc 2 1, 3), (45, .goto (-43), 3), (48, .iconst 1, 1), (49, .ireturn, 1)]
def zdl_24 : List (Nat × Instr × Nat) := [(0, .iconst 1, 1), (1, .istore_n 2, 1), (2, .iconst 1, 1), (3, .istore_n 3, 1), (4, .iload_n 3, 1), (5, .iload_n 1, 1), (6, .if_icmp .gt 19, 3), (9, .iload_n 2, 1), (10, .iload_n 0, 1), (11, .iload_n 1, 1), (12, .isub, 1), (13, .iload_n 3, 1), (14, .iadd, 1), (15, .imul, 1), (16, .iload_n 3, 1), (17, .idiv, 1), (18, .istore_n 2, 1), (19, .iinc 3 1, 3), (22, .goto (-18), 3), (25, .iload_n 2, 1), (26, .ireturn, 1)]
def zdl_25 : List (Nat × Instr × Nat) := [(0, .iload_n 1, 1), (1, .istore_n 2, 1), (2, .aload_n 0, 1), (3, .iload_n 1, 1), (4, .invokevirtual 60, 3), (7, .istore_n 3, 1), (8, .iconst 0, 1), (9, .istore 4, 2), (11, .iload 4, 2), (13, .aload_n 0, 1), (14, .getfield 28, 3), (17, .getfield 47, 3), (20, .if_icmp .ge 30, 3), (23, .aload_n 0, 1), (24, .iload_n 1, 1), (25, .iconst 1, 1), (26, .iload 4, 2), (28, .ishl, 1), (29, .ior, 1), (30, .invokevirtual 60, 3), (33, .iload_n 3, 1), (34, .if_icmp .ne 10, 3), (37, .iload_n 2, 1), (38, .iconst 1, 1), (39, .iload 4, 2), (41, .ishl, 1), (42, .ior, 1), (43, .istore_n 2, 1), (44, .iinc 4 1, 3), (47, .goto (-36), 3), (50, .iload_n 2, 1), (51, .ireturn, 1)]
def zdl_26 : List (Nat × Instr × Nat) := [(0, .iconst 0, 1), (1, .istore_n 2, 1), (2, .iconst 0, 1), (3, .istore_n 3, 1), (4, .iload_n 3, 1), (5, .aload_n 0, 1), (6, .getfield 28, 3), (9, .invokevirtual 112, 3), (12, .if_icmp .gt 27, 3), (15, .aload_n 0, 1), (16, .iload_n 3, 1), (17, .invokevirtual 115, 3), (20, .ifCond .eq 13, 3), (23, .iload_n 2, 1), (24, .iload_n 1, 1), (25, .if_icmp .ne 5, 3), (28, .iload_n 3, 1), (29, .ireturn, 1), (30, .iinc 2 1, 3), (33, .iinc 3 1, 3), (36, .goto (-32), 3), (39, .iconst (-1), 1), (40, .ireturn, 1)]
def zdl_27 : List (Nat × Instr × Nat) := [(0, .aload_n 0, 1), (1, .invokevirtual 99, 3), (4, .iconst 0, 1), (5, .istore_n 3, 1), (6, .iload_n 1, 1), (7, .istore 4, 2), (9, .iload 4, 2), (11, .bipush 12, 2), (13, .if_icmp .gt 92, 3), (16, .iload_n 2, 1), (17, .istore 5, 2), (19, .iload 5, 2), (21, .bipush 12, 2), (23, .if_icmp .gt 76, 3), (26, .aload_n 0, 1), (27, .getfield 21, 3), (30, .iload 4, 2), (32, .bipush 13, 2), (34, .imul, 1), (35, .iload 5, 2), (37, .iadd, 1), (38, .iaload, 1), (39, .istore 6, 2), (41, .iload 6, 2), (43, .ifCond .ne 7, 3), (46, .iconst 0, 1), (47, .goto 19, 3), (50, .iload 6, 2), (52, .iload 4, 2), (54, .iload_n 1, 1), (55, .invokestatic 102, 3), (58, .imul, 1), (59, .iload 5, 2), (61, .iload_n 2, 1), (62, .invokestatic 102, 3), (65, .imul, 1), (66, .istore 7, 2), (68, .iload_n 3, 1), (69, .iload 4, 2), (71, .iload_n 1, 1), (72, .isub, 1), (73, .iload 5, 2), (75, .iadd, 1), (76, .iload_n 2, 1), (77, .isub, 1), (78, .iconst 1, 1), (79, .iand, 1), (80, .ifCond .ne 8, 3), (83, .iload 7, 2), (85, .goto 6, 3), (88, .iload 7, 2), (90, .ineg, 1), (91, .iadd, 1), (92, .istore_n 3, 1), (93, .iinc 5 1, 3), (96, .goto (-77), 3), (99, .iinc 4 1, 3), (102, .goto (-93), 3), (105, .iload_n 3, 1), (106, .ireturn, 1)]
def zdl_28 : List (Nat × Instr × Nat) := [(0, .iconst 0, 1), (1, .istore_n 1, 1), (2, .iload_n 1, 1), (3, .aload_n 0, 1), (4, .getfield 28, 3), (7, .getfield 47, 3), (10, .if_icmp .ge 57, 3), (13, .iconst 1, 1), (14, .iload_n 1, 1), (15, .ishl, 1), (16, .istore_n 2, 1), (17, .iconst 0, 1), (18, .istore_n 3, 1), (19, .iload_n 3, 1), (20, .iload_n 2, 1), (21, .if_icmp .ge 40, 3), (24, .aload_n 0, 1), (25, .getfield 9, 3), (28, .iload_n 3, 1), (29, .iaload, 1), (30, .iload_n 3, 1), (31, .if_icmp .eq 24, 3), (34, .aload_n 0, 1), (35, .getfield 9, 3), (38, .iload_n 3, 1), (39, .iload_n 2, 1), (40, .ior, 1), (41, .aload_n 0, 1), (42, .getfield 9, 3), (45, .aload_n 0, 1), (46, .getfield 9, 3), (49, .iload_n 3, 1), (50, .iaload, 1), (51, .iload_n 2, 1), (52, .ior, 1), (53, .iaload, 1), (54, .iastore, 1), (55, .iinc 3 1, 3), (58, .goto (-39), 3), (61, .iinc 1 1, 3), (64, .goto (-62), 3), (67, .return_, 1)]
def zdl_29 : List (Nat × Instr × Nat) := [(0, .iconst 0, 1), (1, .istore_n 1, 1), (2, .iload_n 1, 1), (3, .aload_n 0, 1), (4, .getfield 28, 3), (7, .getfield 47, 3), (10, .if_icmp .ge 18, 3), (13, .aload_n 0, 1), (14, .getfield 18, 3), (17, .iload_n 1, 1), (18, .iconst 1, 1), (19, .iload_n 1, 1), (20, .ishl, 1), (21, .iastore, 1), (22, .iinc 1 1, 3), (25, .goto (-23), 3), (28, .iconst 1, 1), (29, .istore_n 1, 1), (30, .iload_n 1, 1), (31, .aload_n 0, 1), (32, .getfield 28, 3), (35, .invokevirtual 63, 3), (38, .if_icmp .gt 55, 3), (41, .aload_n 0, 1), (42, .iload_n 1, 1), (43, .invokevirtual 74, 3), (46, .ifCond .eq 41, 3), (49, .iconst 0, 1), (50, .istore_n 2, 1), (51, .iload_n 2, 1), (52, .aload_n 0, 1), (53, .getfield 28, 3), (56, .getfield 47, 3), (59, .if_icmp .ge 28, 3), (62, .iload_n 1, 1), (63, .iload_n 2, 1), (64, .ishr, 1), (65, .iconst 1, 1), (66, .iand, 1), (67, .iconst 1, 1), (68, .if_icmp .ne 13, 3), (71, .aload_n 0, 1), (72, .getfield 18, 3), (75, .iload_n 2, 1), (76, .dup2, 1), (77, .iaload, 1), (78, .iload_n 1, 1), (79, .ior, 1), (80, .iastore, 1), (81, .iinc 2 1, 3), (84, .goto (-33), 3), (87, .iinc 1 1, 3), (90, .goto (-60), 3), (93, .return_, 1)]
def zdl_30 : List (Nat × Instr × Nat) := [(0, .iload_n 1, 1), (1, .bipush 12, 2), (3, .if_icmp .lt 4, 3), (6, .return_, 1), (7, .iload_n 3, 1), (8, .istore 4, 2), (10, .iload 4, 2), (12, .aload_n 0, 1), (13, .getfield 28, 3), (16, .getfield 47, 3), (19, .if_icmp .ge 61, 3), (22, .iload_n 2, 1), (23, .iconst 1, 1), (24, .iload 4, 2), (26, .ishl, 1), (27, .ior, 1), (28, .istore 5, 2), (30, .aload_n 0, 1), (31, .iload_n 1, 1), (32, .iload_n 2, 1), (33, .iload 4, 2), (35, .invokevirtual 50, 3), (38, .ifCond .eq 28, 3), (41, .aload_n 0, 1), (42, .getfield 9, 3), (45, .iload 5, 2), (47, .iload 5, 2), (49, .iastore, 1), (50, .aload_n 0, 1), (51, .iload_n 1, 1), (52, .iconst 1, 1), (53, .iadd, 1), (54, .iload 5, 2), (56, .iload 4, 2), (58, .iconst 1, 1), (59, .iadd, 1), (60, .invokevirtual 40, 3), (63, .goto 11, 3), (66, .aload_n 0, 1), (67, .getfield 9, 3), (70, .iload 5, 2), (72, .iload_n 2, 1), (73, .iastore, 1), (74, .iinc 4 1, 3), (77, .goto (-67), 3), (80, .return_, 1)]
def zdb_0 : List (ByteArray × List (Nat × Instr × Nat)) := [(cJ6_bitCount_0f7a4, zdl_0), (cJ7_fill_53178, zdl_1), (cX0_init, zdl_2), (cX0_lacking, zdl_3), (cX0_link, zdl_4), (cX0_linkAll, zdl_5), (cX0_mostInside, zdl_6), (cX0_prepare, zdl_7), (cX0_raises, zdl_8), (cX1_allBars, zdl_9), (cX1_allJoints, zdl_10), (cX1_barsSigned, zdl_11), (cX1_dropLast, zdl_12), (cX1_hangsTogether, zdl_13), (cX1_hasBar, zdl_14), (cX1_hasJoint, zdl_15), (cX1_hasSet, zdl_16), (cX1_init, zdl_17), (cX1_isJoined, zdl_18), (cX1_join, zdl_19), (cX1_move, zdl_20), (cX1_neighbours, zdl_21), (cX1_restart, zdl_22), (cX2_areLinked, zdl_23), (cX2_choose, zdl_24), (cX2_closureOf, zdl_25), (cX2_clusterAt, zdl_26), (cX2_coefficientAt, zdl_27), (cX2_completeBases, zdl_28), (cX2_gatherParts, zdl_29), (cX2_grow, zdl_30)]
set_option maxRecDepth 100000 in
theorem zdo_0 : zdl_0.all (fun e => decide (decode cJ6_bitCount_0f7a4 e.1 = .ok e.2)) = true := by decide +kernel
set_option maxRecDepth 100000 in
theorem zdo_1 : zdl_1.all (fun e => decide (decode cJ7_fill_53178 e.1 = .ok e.2)) = true := by decide +kernel
set_option maxRecDepth 100000 in
theorem zdo_2 : zdl_2.all (fun e => decide (decode cX0_init e.1 = .ok e.2)) = true := by decide +kernel
set_option maxRecDepth 100000 in
theorem zdo_3 : zdl_3.all (fun e => decide (decode cX0_lacking e.1 = .ok e.2)) = true := by decide +kernel
set_option maxRecDepth 100000 in
theorem zdo_4 : zdl_4.all (fun e => decide (decode cX0_link e.1 = .ok e.2)) = true := by decide +kernel
set_option maxRecDepth 100000 in
theorem zdo_5 : zdl_5.all (fun e => decide (decode cX0_linkAll e.1 = .ok e.2)) = true := by decide +kernel
set_option maxRecDepth 100000 in
theorem zdo_6 : zdl_6.all (fun e => decide (decode cX0_mostInside e.1 = .ok e.2)) = true := by decide +kernel
set_option maxRecDepth 100000 in
theorem zdo_7 : zdl_7.all (fun e => decide (decode cX0_prepare e.1 = .ok e.2)) = true := by decide +kernel
set_option maxRecDepth 100000 in
theorem zdo_8 : zdl_8.all (fun e => decide (decode cX0_raises e.1 = .ok e.2)) = true := by decide +kernel
set_option maxRecDepth 100000 in
theorem zdo_9 : zdl_9.all (fun e => decide (decode cX1_allBars e.1 = .ok e.2)) = true := by decide +kernel
set_option maxRecDepth 100000 in
theorem zdo_10 : zdl_10.all (fun e => decide (decode cX1_allJoints e.1 = .ok e.2)) = true := by decide +kernel
set_option maxRecDepth 100000 in
theorem zdo_11 : zdl_11.all (fun e => decide (decode cX1_barsSigned e.1 = .ok e.2)) = true := by decide +kernel
set_option maxRecDepth 100000 in
theorem zdo_12 : zdl_12.all (fun e => decide (decode cX1_dropLast e.1 = .ok e.2)) = true := by decide +kernel
set_option maxRecDepth 100000 in
theorem zdo_13 : zdl_13.all (fun e => decide (decode cX1_hangsTogether e.1 = .ok e.2)) = true := by decide +kernel
set_option maxRecDepth 100000 in
theorem zdo_14 : zdl_14.all (fun e => decide (decode cX1_hasBar e.1 = .ok e.2)) = true := by decide +kernel
set_option maxRecDepth 100000 in
theorem zdo_15 : zdl_15.all (fun e => decide (decode cX1_hasJoint e.1 = .ok e.2)) = true := by decide +kernel
set_option maxRecDepth 100000 in
theorem zdo_16 : zdl_16.all (fun e => decide (decode cX1_hasSet e.1 = .ok e.2)) = true := by decide +kernel
set_option maxRecDepth 100000 in
theorem zdo_17 : zdl_17.all (fun e => decide (decode cX1_init e.1 = .ok e.2)) = true := by decide +kernel
set_option maxRecDepth 100000 in
theorem zdo_18 : zdl_18.all (fun e => decide (decode cX1_isJoined e.1 = .ok e.2)) = true := by decide +kernel
set_option maxRecDepth 100000 in
theorem zdo_19 : zdl_19.all (fun e => decide (decode cX1_join e.1 = .ok e.2)) = true := by decide +kernel
set_option maxRecDepth 100000 in
theorem zdo_20 : zdl_20.all (fun e => decide (decode cX1_move e.1 = .ok e.2)) = true := by decide +kernel
set_option maxRecDepth 100000 in
theorem zdo_21 : zdl_21.all (fun e => decide (decode cX1_neighbours e.1 = .ok e.2)) = true := by decide +kernel
set_option maxRecDepth 100000 in
theorem zdo_22 : zdl_22.all (fun e => decide (decode cX1_restart e.1 = .ok e.2)) = true := by decide +kernel
set_option maxRecDepth 100000 in
theorem zdo_23 : zdl_23.all (fun e => decide (decode cX2_areLinked e.1 = .ok e.2)) = true := by decide +kernel
set_option maxRecDepth 100000 in
theorem zdo_24 : zdl_24.all (fun e => decide (decode cX2_choose e.1 = .ok e.2)) = true := by decide +kernel
set_option maxRecDepth 100000 in
theorem zdo_25 : zdl_25.all (fun e => decide (decode cX2_closureOf e.1 = .ok e.2)) = true := by decide +kernel
set_option maxRecDepth 100000 in
theorem zdo_26 : zdl_26.all (fun e => decide (decode cX2_clusterAt e.1 = .ok e.2)) = true := by decide +kernel
set_option maxRecDepth 100000 in
theorem zdo_27 : zdl_27.all (fun e => decide (decode cX2_coefficientAt e.1 = .ok e.2)) = true := by decide +kernel
set_option maxRecDepth 100000 in
theorem zdo_28 : zdl_28.all (fun e => decide (decode cX2_completeBases e.1 = .ok e.2)) = true := by decide +kernel
set_option maxRecDepth 100000 in
theorem zdo_29 : zdl_29.all (fun e => decide (decode cX2_gatherParts e.1 = .ok e.2)) = true := by decide +kernel
set_option maxRecDepth 100000 in
theorem zdo_30 : zdl_30.all (fun e => decide (decode cX2_grow e.1 = .ok e.2)) = true := by decide +kernel
theorem zdk_0 : ∀ q ∈ zdb_0, q.2.all (fun e => decide (decode q.1 e.1 = .ok e.2)) = true := by
  intro q hq
  simp only [zdb_0, List.mem_cons, List.not_mem_nil, or_false] at hq
  rcases hq with rfl | rfl | rfl | rfl | rfl | rfl | rfl | rfl | rfl | rfl | rfl | rfl | rfl | rfl | rfl | rfl | rfl | rfl | rfl | rfl | rfl | rfl | rfl | rfl | rfl | rfl | rfl | rfl | rfl | rfl | rfl
  · exact zdo_0
  · exact zdo_1
  · exact zdo_2
  · exact zdo_3
  · exact zdo_4
  · exact zdo_5
  · exact zdo_6
  · exact zdo_7
  · exact zdo_8
  · exact zdo_9
  · exact zdo_10
  · exact zdo_11
  · exact zdo_12
  · exact zdo_13
  · exact zdo_14
  · exact zdo_15
  · exact zdo_16
  · exact zdo_17
  · exact zdo_18
  · exact zdo_19
  · exact zdo_20
  · exact zdo_21
  · exact zdo_22
  · exact zdo_23
  · exact zdo_24
  · exact zdo_25
  · exact zdo_26
  · exact zdo_27
  · exact zdo_28
  · exact zdo_29
  · exact zdo_30
end
section
def zdl_31 : List (Nat × Instr × Nat) := [(0, .aload_n 0, 1), (1, .invokevirtual 87, 3), (4, .iconst 0, 1), (5, .istore_n 1, 1), (6, .iconst 0, 1), (7, .istore_n 2, 1), (8, .iload_n 2, 1), (9, .aload_n 0, 1), (10, .getfield 28, 3), (13, .getfield 47, 3), (16, .if_icmp .ge 20, 3), (19, .aload_n 0, 1), (20, .iload_n 2, 1), (21, .invokevirtual 90, 3), (24, .ifCond .eq 6, 3), (27, .iinc 1 1, 3), (30, .iinc 2 1, 3), (33, .goto (-25), 3), (36, .iload_n 1, 1), (37, .ireturn, 1)]
def zdl_32 : List (Nat × Instr × Nat) := [(0, .iconst 0, 1), (1, .istore_n 2, 1), (2, .iconst 0, 1), (3, .istore_n 3, 1), (4, .iload_n 3, 1), (5, .aload_n 0, 1), (6, .getfield 28, 3), (9, .invokevirtual 63, 3), (12, .if_icmp .gt 21, 3), (15, .aload_n 0, 1), (16, .iload_n 1, 1), (17, .iload_n 3, 1), (18, .invokevirtual 83, 3), (21, .ifCond .eq 6, 3), (24, .iinc 2 1, 3), (27, .iinc 3 1, 3), (30, .goto (-26), 3), (33, .iload_n 2, 1), (34, .ireturn, 1)]
def zdl_33 : List (Nat × Instr × Nat) := [(0, .aload_n 0, 1), (1, .invokespecial 3, 3), (4, .aload_n 0, 1), (5, .sipush 4096, 3), (8, .newarray .int, 2), (10, .putfield 9, 3), (13, .aload_n 0, 1), (14, .bipush 7, 2), (16, .newarray .int, 2), (18, .putfield 15, 3), (21, .aload_n 0, 1), (22, .bipush 12, 2), (24, .newarray .int, 2), (26, .putfield 18, 3), (29, .aload_n 0, 1), (30, .sipush 169, 3), (33, .newarray .int, 2), (35, .putfield 21, 3), (38, .aload_n 0, 1), (39, .iconst 0, 1), (40, .putfield 24, 3), (43, .aload_n 0, 1), (44, .aload_n 1, 1), (45, .putfield 28, 3), (48, .return_, 1)]
def zdl_34 : List (Nat × Instr × Nat) := [(0, .aload_n 0, 1), (1, .iload_n 1, 1), (2, .invokevirtual 67, 3), (5, .ifCond .eq 5, 3), (8, .iconst 0, 1), (9, .ireturn, 1), (10, .iconst 0, 1), (11, .istore_n 2, 1), (12, .iload_n 2, 1), (13, .aload_n 0, 1), (14, .getfield 28, 3), (17, .getfield 47, 3), (20, .if_icmp .ge 33, 3), (23, .iconst 1, 1), (24, .iload_n 2, 1), (25, .ishl, 1), (26, .istore_n 3, 1), (27, .iload_n 1, 1), (28, .iload_n 3, 1), (29, .iand, 1), (30, .ifCond .eq 17, 3), (33, .aload_n 0, 1), (34, .iload_n 1, 1), (35, .iload_n 3, 1), (36, .iconst (-1), 1), (37, .ixor, 1), (38, .iand, 1), (39, .invokevirtual 67, 3), (42, .ifCond .ne 5, 3), (45, .iconst 0, 1), (46, .ireturn, 1), (47, .iinc 2 1, 3), (50, .goto (-38), 3), (53, .iconst 1, 1), (54, .ireturn, 1)]
def zdl_35 : List (Nat × Instr × Nat) := [(0, .aload_n 0, 1), (1, .iload_n 1, 1), (2, .invokevirtual 60, 3), (5, .istore_n 2, 1), (6, .iconst 0, 1), (7, .istore_n 3, 1), (8, .iload_n 3, 1), (9, .aload_n 0, 1), (10, .getfield 28, 3), (13, .getfield 47, 3), (16, .if_icmp .ge 35, 3), (19, .iconst 1, 1), (20, .iload_n 3, 1), (21, .ishl, 1), (22, .istore 4, 2), (24, .iload_n 1, 1), (25, .iload 4, 2), (27, .iand, 1), (28, .ifCond .ne 17, 3), (31, .aload_n 0, 1), (32, .iload_n 1, 1), (33, .iload 4, 2), (35, .ior, 1), (36, .invokevirtual 60, 3), (39, .iload_n 2, 1), (40, .if_icmp .ne 5, 3), (43, .iconst 0, 1), (44, .ireturn, 1), (45, .iinc 3 1, 3), (48, .goto (-40), 3), (51, .iconst 1, 1), (52, .ireturn, 1)]
def zdl_36 : List (Nat × Instr × Nat) := [(0, .iload_n 1, 1), (1, .invokestatic 54, 3), (4, .iconst 2, 1), (5, .if_icmp .lt 11, 3), (8, .aload_n 0, 1), (9, .iload_n 1, 1), (10, .invokevirtual 109, 3), (13, .ifCond .ne 5, 3), (16, .iconst 0, 1), (17, .ireturn, 1), (18, .iconst 0, 1), (19, .istore_n 2, 1), (20, .iload_n 2, 1), (21, .aload_n 0, 1), (22, .getfield 28, 3), (25, .getfield 106, 3), (28, .if_icmp .ge 32, 3), (31, .iload_n 1, 1), (32, .iload_n 2, 1), (33, .ishr, 1), (34, .iconst 1, 1), (35, .iand, 1), (36, .ifCond .ne 18, 3), (39, .iload_n 1, 1), (40, .aload_n 0, 1), (41, .getfield 15, 3), (44, .iload_n 2, 1), (45, .iaload, 1), (46, .iconst (-1), 1), (47, .ixor, 1), (48, .iand, 1), (49, .ifCond .ne 5, 3), (52, .iconst 0, 1), (53, .ireturn, 1), (54, .iinc 2 1, 3), (57, .goto (-37), 3), (60, .iconst 1, 1), (61, .ireturn, 1)]
def zdl_37 : List (Nat × Instr × Nat) := [(0, .aload_n 0, 1), (1, .getfield 9, 3), (4, .iload_n 1, 1), (5, .iaload, 1), (6, .iload_n 1, 1), (7, .if_icmp .ne 7, 3), (10, .iconst 1, 1), (11, .goto 4, 3), (14, .iconst 0, 1), (15, .ireturn, 1)]
def zdl_38 : List (Nat × Instr × Nat) := [(0, .aload_n 0, 1), (1, .getfield 18, 3), (4, .iload_n 1, 1), (5, .iaload, 1), (6, .aload_n 0, 1), (7, .getfield 18, 3), (10, .iload_n 1, 1), (11, .iaload, 1), (12, .ineg, 1), (13, .iand, 1), (14, .iconst 1, 1), (15, .iload_n 1, 1), (16, .ishl, 1), (17, .if_icmp .ne 7, 3), (20, .iconst 1, 1), (21, .goto 4, 3), (24, .iconst 0, 1), (25, .ireturn, 1)]
def zdl_39 : List (Nat × Instr × Nat) := [(0, .iload_n 1, 1), (1, .tableswitch 95 0 6 #[43, 49, 71, 77, 95, 83, 89], 43), (44, .aload_n 0, 1), (45, .iload_n 2, 1), (46, .invokevirtual 67, 3), (49, .ireturn, 1), (50, .aload_n 0, 1), (51, .iload_n 2, 1), (52, .invokevirtual 67, 3), (55, .ifCond .eq 15, 3), (58, .aload_n 0, 1), (59, .iload_n 2, 1), (60, .invokevirtual 71, 3), (63, .ifCond .eq 7, 3), (66, .iconst 1, 1), (67, .goto 4, 3), (70, .iconst 0, 1), (71, .ireturn, 1), (72, .aload_n 0, 1), (73, .iload_n 2, 1), (74, .invokevirtual 74, 3), (77, .ireturn, 1), (78, .aload_n 0, 1), (79, .iload_n 2, 1), (80, .invokevirtual 71, 3), (83, .ireturn, 1), (84, .aload_n 0, 1), (85, .iload_n 2, 1), (86, .invokevirtual 77, 3), (89, .ireturn, 1), (90, .aload_n 0, 1), (91, .iload_n 2, 1), (92, .invokevirtual 80, 3), (95, .ireturn, 1), (96, .iconst 0, 1), (97, .ireturn, 1)]
def zdl_40 : List (Nat × Instr × Nat) := [(0, .aload_n 0, 1), (1, .iload_n 1, 1), (2, .invokevirtual 60, 3), (5, .aload_n 0, 1), (6, .aload_n 0, 1), (7, .getfield 28, 3), (10, .invokevirtual 63, 3), (13, .invokevirtual 60, 3), (16, .if_icmp .ne 7, 3), (19, .iconst 1, 1), (20, .goto 4, 3), (23, .iconst 0, 1), (24, .ireturn, 1)]
def zdl_41 : List (Nat × Instr × Nat) := [(0, .aload_n 0, 1), (1, .getfield 28, 3), (4, .invokevirtual 63, 3), (7, .iload_n 1, 1), (8, .iconst (-1), 1), (9, .ixor, 1), (10, .iand, 1), (11, .istore_n 2, 1), (12, .aload_n 0, 1), (13, .iload_n 2, 1), (14, .invokevirtual 71, 3), (17, .ifCond .eq 5, 3), (20, .iconst 0, 1), (21, .ireturn, 1), (22, .iconst 0, 1), (23, .istore_n 3, 1), (24, .iload_n 3, 1), (25, .aload_n 0, 1), (26, .getfield 28, 3), (29, .getfield 47, 3), (32, .if_icmp .ge 34, 3), (35, .iconst 1, 1), (36, .iload_n 3, 1), (37, .ishl, 1), (38, .istore 4, 2), (40, .iload_n 1, 1), (41, .iload 4, 2), (43, .iand, 1), (44, .ifCond .eq 16, 3), (47, .aload_n 0, 1), (48, .iload_n 2, 1), (49, .iload 4, 2), (51, .ior, 1), (52, .invokevirtual 71, 3), (55, .ifCond .ne 5, 3), (58, .iconst 0, 1), (59, .ireturn, 1), (60, .iinc 3 1, 3), (63, .goto (-39), 3), (66, .iconst 1, 1), (67, .ireturn, 1)]
def zdl_42 : List (Nat × Instr × Nat) := [(0, .aload_n 0, 1), (1, .invokevirtual 87, 3), (4, .iconst 0, 1), (5, .istore_n 2, 1), (6, .iconst 0, 1), (7, .istore_n 3, 1), (8, .iload_n 3, 1), (9, .aload_n 0, 1), (10, .getfield 28, 3), (13, .getfield 47, 3), (16, .if_icmp .ge 32, 3), (19, .aload_n 0, 1), (20, .iload_n 3, 1), (21, .invokevirtual 90, 3), (24, .ifCond .eq 18, 3), (27, .iload_n 2, 1), (28, .iload_n 1, 1), (29, .if_icmp .ne 10, 3), (32, .aload_n 0, 1), (33, .getfield 18, 3), (36, .iload_n 3, 1), (37, .iaload, 1), (38, .ireturn, 1), (39, .iinc 2 1, 3), (42, .iinc 3 1, 3), (45, .goto (-37), 3), (48, .iconst (-1), 1), (49, .ireturn, 1)]
def zdl_43 : List (Nat × Instr × Nat) := [(0, .aload_n 0, 1), (1, .getfield 9, 3), (4, .iload_n 1, 1), (5, .iaload, 1), (6, .invokestatic 54, 3), (9, .ireturn, 1)]
def zdl_44 : List (Nat × Instr × Nat) := [(0, .aload_n 0, 1), (1, .getfield 24, 3), (4, .aload_n 0, 1), (5, .getfield 28, 3), (8, .getfield 32, 3), (11, .if_icmp .ne 4, 3), (14, .return_, 1), (15, .aload_n 0, 1), (16, .invokevirtual 37, 3), (19, .aload_n 0, 1), (20, .getfield 9, 3), (23, .iconst 0, 1), (24, .iconst 0, 1), (25, .iastore, 1), (26, .aload_n 0, 1), (27, .iconst 0, 1), (28, .iconst 0, 1), (29, .iconst 0, 1), (30, .invokevirtual 40, 3), (33, .aload_n 0, 1), (34, .invokevirtual 44, 3), (37, .aload_n 0, 1), (38, .aload_n 0, 1), (39, .getfield 28, 3), (42, .getfield 32, 3), (45, .putfield 24, 3), (48, .return_, 1)]
def zdl_45 : List (Nat × Instr × Nat) := [(0, .iconst 0, 1), (1, .istore_n 3, 1), (2, .iconst 0, 1), (3, .istore 4, 2), (5, .iload 4, 2), (7, .aload_n 0, 1), (8, .getfield 28, 3), (11, .invokevirtual 63, 3), (14, .if_icmp .gt 30, 3), (17, .aload_n 0, 1), (18, .iload_n 1, 1), (19, .iload 4, 2), (21, .invokevirtual 83, 3), (24, .ifCond .eq 14, 3), (27, .iload_n 3, 1), (28, .iload_n 2, 1), (29, .if_icmp .ne 6, 3), (32, .iload 4, 2), (34, .ireturn, 1), (35, .iinc 3 1, 3), (38, .iinc 4 1, 3), (41, .goto (-36), 3), (44, .iconst (-1), 1), (45, .ireturn, 1)]
def zdl_46 : List (Nat × Instr × Nat) := [(0, .aload_n 0, 1), (1, .getfield 28, 3), (4, .invokevirtual 63, 3), (7, .istore_n 1, 1), (8, .iconst 0, 1), (9, .istore_n 2, 1), (10, .iconst 0, 1), (11, .istore_n 3, 1), (12, .iload_n 3, 1), (13, .aload_n 0, 1), (14, .getfield 28, 3), (17, .getfield 47, 3), (20, .if_icmp .ge 34, 3), (23, .aload_n 0, 1), (24, .iload_n 1, 1), (25, .iconst 1, 1), (26, .iload_n 3, 1), (27, .ishl, 1), (28, .iconst (-1), 1), (29, .ixor, 1), (30, .iand, 1), (31, .invokevirtual 60, 3), (34, .aload_n 0, 1), (35, .iload_n 1, 1), (36, .invokevirtual 60, 3), (39, .if_icmp .ne 9, 3), (42, .iload_n 2, 1), (43, .iconst 1, 1), (44, .iload_n 3, 1), (45, .ishl, 1), (46, .ior, 1), (47, .istore_n 2, 1), (48, .iinc 3 1, 3), (51, .goto (-39), 3), (54, .iload_n 2, 1), (55, .ireturn, 1)]
def zdl_47 : List (Nat × Instr × Nat) := [(0, .aload_n 0, 1), (1, .getfield 21, 3), (4, .iconst 0, 1), (5, .invokestatic 93, 3), (8, .aload_n 0, 1), (9, .aload_n 0, 1), (10, .getfield 28, 3), (13, .invokevirtual 63, 3), (16, .invokevirtual 60, 3), (19, .istore_n 1, 1), (20, .iconst 0, 1), (21, .istore_n 2, 1), (22, .iload_n 2, 1), (23, .aload_n 0, 1), (24, .getfield 28, 3), (27, .invokevirtual 63, 3), (30, .if_icmp .gt 37, 3), (33, .aload_n 0, 1), (34, .iload_n 2, 1), (35, .invokevirtual 60, 3), (38, .istore_n 3, 1), (39, .aload_n 0, 1), (40, .getfield 21, 3), (43, .iload_n 1, 1), (44, .iload_n 3, 1), (45, .isub, 1), (46, .bipush 13, 2), (48, .imul, 1), (49, .iload_n 2, 1), (50, .invokestatic 54, 3), (53, .iadd, 1), (54, .iload_n 3, 1), (55, .isub, 1), (56, .dup2, 1), (57, .iaload, 1), (58, .iconst 1, 1), (59, .iadd, 1), (60, .iastore, 1), (61, .iinc 2 1, 3), (64, .goto (-42), 3), (67, .return_, 1)]
def zdl_48 : List (Nat × Instr × Nat) := [(0, .aload_n 0, 1), (1, .getfield 40, 3), (4, .iconst 1, 1), (5, .invokevirtual 121, 3), (8, .istore_n 1, 1), (9, .aload_n 0, 1), (10, .getfield 40, 3), (13, .iconst (-1), 1), (14, .invokevirtual 121, 3), (17, .istore_n 2, 1), (18, .iconst 0, 1), (19, .istore_n 3, 1), (20, .iconst 1, 1), (21, .istore 4, 2), (23, .iload 4, 2), (25, .aload_n 0, 1), (26, .getfield 40, 3), (29, .invokevirtual 118, 3), (32, .if_icmp .gt 93, 3), (35, .aload_n 0, 1), (36, .iload 4, 2), (38, .invokevirtual 124, 3), (41, .ifCond .eq 78, 3), (44, .aload_n 0, 1), (45, .getfield 21, 3), (48, .iload 4, 2), (50, .iaload, 1), (51, .istore 5, 2), (53, .iload 4, 2), (55, .iload 5, 2), (57, .iconst (-1), 1), (58, .ixor, 1), (59, .iand, 1), (60, .istore 6, 2), (62, .iload 5, 2), (64, .iload_n 1, 1), (65, .iand, 1), (66, .ifCond .ne 14, 3), (69, .iload 6, 2), (71, .iload_n 2, 1), (72, .iand, 1), (73, .ifCond .ne 7, 3), (76, .iconst 1, 1), (77, .goto 4, 3), (80, .iconst 0, 1), (81, .istore 7, 2), (83, .iload 6, 2), (85, .iload_n 1, 1), (86, .iand, 1), (87, .ifCond .ne 14, 3), (90, .iload 5, 2), (92, .iload_n 2, 1), (93, .iand, 1), (94, .ifCond .ne 7, 3), (97, .iconst 1, 1), (98, .goto 4, 3), (101, .iconst 0, 1), (102, .istore 8, 2), (104, .iload 7, 2), (106, .ifCond .ne 8, 3), (109, .iload 8, 2), (111, .ifCond .eq 8, 3), (114, .iload_n 3, 1), (115, .iload 4, 2), (117, .ior, 1), (118, .istore_n 3, 1), (119, .iinc 4 1, 3), (122, .goto (-99), 3), (125, .iload_n 1, 1), (126, .iload_n 2, 1), (127, .ior, 1), (128, .iload_n 3, 1), (129, .iconst (-1), 1), (130, .ixor, 1), (131, .iand, 1), (132, .ifCond .ne 7, 3), (135, .iconst 1, 1), (136, .goto 4, 3), (139, .iconst 0, 1), (140, .ireturn, 1)]
def zdl_49 : List (Nat × Instr × Nat) := [(0, .aload_n 0, 1), (1, .getfield 40, 3), (4, .getfield 91, 3), (7, .aload_n 0, 1), (8, .getfield 40, 3), (11, .getfield 91, 3), (14, .iconst 1, 1), (15, .isub, 1), (16, .imul, 1), (17, .iconst 2, 1), (18, .idiv, 1), (19, .ireturn, 1)]
def zdl_50 : List (Nat × Instr × Nat) := [(0, .aload_n 0, 1), (1, .aload_n 1, 1), (2, .invokespecial 3, 3), (5, .aload_n 0, 1), (6, .bipush 13, 2), (8, .anewarray 9, 3), (11, .putfield 11, 3), (14, .aload_n 0, 1), (15, .bipush 13, 2), (17, .newarray .long, 2), (19, .putfield 17, 3), (22, .aload_n 0, 1), (23, .sipush 4096, 3), (26, .newarray .int, 2), (28, .putfield 21, 3), (31, .aload_n 0, 1), (32, .new 9, 3), (35, .dup, 1), (36, .bipush 21, 2), (38, .bipush 12, 2), (40, .invokespecial 25, 3), (43, .putfield 28, 3), (46, .aload_n 0, 1), (47, .iload_n 2, 1), (48, .putfield 32, 3), (51, .iconst 0, 1), (52, .istore_n 3, 1), (53, .iload_n 3, 1), (54, .bipush 12, 2), (56, .if_icmp .gt 26, 3), (59, .aload_n 0, 1), (60, .getfield 11, 3), (63, .iload_n 3, 1), (64, .new 9, 3), (67, .dup, 1), (68, .bipush 12, 2), (70, .bipush 24, 2), (72, .invokespecial 25, 3), (75, .aastore, 1), (76, .iinc 3 1, 3), (79, .goto (-26), 3), (82, .return_, 1)]
def zdl_51 : List (Nat × Instr × Nat) := [(0, .aload_n 0, 1), (1, .aload_n 0, 1), (2, .getfield 40, 3), (5, .invokevirtual 118, 3), (8, .invokevirtual 115, 3), (11, .iconst 0, 1), (12, .istore_n 1, 1), (13, .iconst 0, 1), (14, .istore_n 2, 1), (15, .iload_n 2, 1), (16, .aload_n 0, 1), (17, .invokevirtual 94, 3), (20, .if_icmp .ge 20, 3), (23, .aload_n 0, 1), (24, .iload_n 2, 1), (25, .invokevirtual 102, 3), (28, .ifCond .eq 6, 3), (31, .iinc 1 1, 3), (34, .iinc 2 1, 3), (37, .goto (-22), 3), (40, .iload_n 1, 1), (41, .ireturn, 1)]
def zdl_52 : List (Nat × Instr × Nat) := [(0, .aload_n 0, 1), (1, .getfield 106, 3), (4, .iconst 0, 1), (5, .invokestatic 109, 3), (8, .aload_n 0, 1), (9, .iload_n 1, 1), (10, .invokevirtual 115, 3), (13, .iconst 1, 1), (14, .istore_n 2, 1), (15, .iload_n 2, 1), (16, .aload_n 0, 1), (17, .getfield 40, 3), (20, .getfield 91, 3), (23, .if_icmp .ge 61, 3), (26, .iconst 0, 1), (27, .istore_n 3, 1), (28, .iload_n 3, 1), (29, .iload_n 2, 1), (30, .if_icmp .ge 48, 3), (33, .aload_n 0, 1), (34, .getfield 28, 3), (37, .iload_n 3, 1), (38, .iload_n 2, 1), (39, .invokestatic 98, 3), (42, .invokevirtual 66, 3), (45, .ifCond .ge 27, 3), (48, .aload_n 0, 1), (49, .getfield 106, 3), (52, .iload_n 3, 1), (53, .dup2, 1), (54, .iaload, 1), (55, .iconst 1, 1), (56, .iload_n 2, 1), (57, .ishl, 1), (58, .ior, 1), (59, .iastore, 1), (60, .aload_n 0, 1), (61, .getfield 106, 3), (64, .iload_n 2, 1), (65, .dup2, 1), (66, .iaload, 1), (67, .iconst 1, 1), (68, .iload_n 3, 1), (69, .ishl, 1), (70, .ior, 1), (71, .iastore, 1), (72, .iinc 3 1, 3), (75, .goto (-47), 3), (78, .iinc 2 1, 3), (81, .goto (-66), 3), (84, .return_, 1)]
def zdl_53 : List (Nat × Instr × Nat) := [(0, .iload_n 2, 1), (1, .iconst 1, 1), (2, .iload_n 3, 1), (3, .ishl, 1), (4, .ior, 1), (5, .istore 4, 2), (7, .iconst 0, 1), (8, .istore 5, 2), (10, .iconst 0, 1), (11, .istore 6, 2), (13, .iload 6, 2), (15, .iload_n 3, 1), (16, .if_icmp .gt 71, 3), (19, .iload 4, 2), (21, .iload 6, 2), (23, .ishr, 1), (24, .iconst 1, 1), (25, .iand, 1), (26, .iconst 1, 1), (27, .if_icmp .ne 54, 3), (30, .aload_n 0, 1), (31, .getfield 11, 3), (34, .iload_n 1, 1), (35, .aaload, 1), (36, .iload_n 3, 1), (37, .bipush 12, 2), (39, .iload 6, 2), (41, .iadd, 1), (42, .invokevirtual 73, 3), (45, .aload_n 0, 1), (46, .getfield 17, 3), (49, .iload_n 1, 1), (50, .laload, 1), (51, .invokestatic 77, 3), (54, .lstore 7, 2), (56, .lload 7, 2), (58, .lconst 0, 1), (59, .lcmp, 1), (60, .ifCond .ne 4, 3), (63, .return_, 1), (64, .lload 7, 2), (66, .invokestatic 87, 3), (69, .ifCond .eq 12, 3), (72, .iload 5, 2), (74, .iconst 1, 1), (75, .iload 6, 2), (77, .ishl, 1), (78, .ior, 1), (79, .istore 5, 2), (81, .iinc 6 1, 3), (84, .goto (-71), 3), (87, .iload 4, 2), (89, .iload 4, 2), (91, .ineg, 1), (92, .iand, 1), (93, .istore 6, 2), (95, .aload_n 0, 1), (96, .getfield 21, 3), (99, .iload 4, 2), (101, .iload 5, 2), (103, .iload 6, 2), (105, .iand, 1), (106, .ifCond .ne 8, 3), (109, .iload 5, 2), (111, .goto 10, 3), (114, .iload 4, 2), (116, .iload 5, 2), (118, .iconst (-1), 1), (119, .ixor, 1), (120, .iand, 1), (121, .iastore, 1), (122, .return_, 1)]
def zdl_54 : List (Nat × Instr × Nat) := [(0, .iload_n 1, 1), (1, .iload_n 1, 1), (2, .iconst 1, 1), (3, .isub, 1), (4, .imul, 1), (5, .iconst 2, 1), (6, .idiv, 1), (7, .iload_n 0, 1), (8, .iadd, 1), (9, .ireturn, 1)]
def zdl_55 : List (Nat × Instr × Nat) := [(0, .aload_n 0, 1), (1, .getfield 17, 3), (4, .iconst 0, 1), (5, .lconst 1, 1), (6, .lastore, 1), (7, .iconst 0, 1), (8, .istore_n 1, 1), (9, .iload_n 1, 1), (10, .aload_n 0, 1), (11, .getfield 40, 3), (14, .getfield 53, 3), (17, .if_icmp .ge 53, 3), (20, .aload_n 0, 1), (21, .aload_n 0, 1), (22, .getfield 11, 3), (25, .iconst 0, 1), (26, .aaload, 1), (27, .iload_n 1, 1), (28, .aload_n 0, 1), (29, .getfield 40, 3), (32, .getfield 56, 3), (35, .iload_n 1, 1), (36, .iaload, 1), (37, .aload_n 0, 1), (38, .getfield 40, 3), (41, .getfield 59, 3), (44, .iload_n 1, 1), (45, .iaload, 1), (46, .invokevirtual 62, 3), (49, .aload_n 0, 1), (50, .getfield 11, 3), (53, .iconst 0, 1), (54, .aaload, 1), (55, .iload_n 1, 1), (56, .bipush 12, 2), (58, .iload_n 1, 1), (59, .iadd, 1), (60, .iconst 1, 1), (61, .invokevirtual 49, 3), (64, .iinc 1 1, 3), (67, .goto (-58), 3), (70, .return_, 1)]
def zdl_56 : List (Nat × Instr × Nat) := [(0, .aload_n 0, 1), (1, .getfield 11, 3), (4, .iload_n 1, 1), (5, .aaload, 1), (6, .astore 4, 2), (8, .aload 4, 2), (10, .iload_n 3, 1), (11, .invokevirtual 66, 3), (14, .istore 5, 2), (16, .iload 5, 2), (18, .ifCond .ge 12, 3), (21, .aload_n 0, 1), (22, .iload_n 1, 1), (23, .iload_n 2, 1), (24, .iload_n 3, 1), (25, .invokevirtual 70, 3), (28, .iconst 0, 1), (29, .ireturn, 1), (30, .iload_n 3, 1), (31, .iconst 1, 1), (32, .iadd, 1), (33, .aload_n 0, 1), (34, .getfield 40, 3), (37, .getfield 53, 3), (40, .if_icmp .ge 53, 3), (43, .aload_n 0, 1), (44, .getfield 17, 3), (47, .iload_n 1, 1), (48, .iconst 1, 1), (49, .iadd, 1), (50, .aload_n 0, 1), (51, .getfield 17, 3), (54, .iload_n 1, 1), (55, .laload, 1), (56, .aload 4, 2), (58, .iload_n 3, 1), (59, .iload 5, 2), (61, .invokevirtual 73, 3), (64, .invokestatic 77, 3), (67, .lastore, 1), (68, .aload 4, 2), (70, .aload_n 0, 1), (71, .getfield 11, 3), (74, .iload_n 1, 1), (75, .iconst 1, 1), (76, .iadd, 1), (77, .aaload, 1), (78, .iload_n 3, 1), (79, .iload_n 3, 1), (80, .iconst 1, 1), (81, .iadd, 1), (82, .aload_n 0, 1), (83, .getfield 40, 3), (86, .getfield 53, 3), (89, .invokevirtual 83, 3), (92, .pop, 1), (93, .iconst 1, 1), (94, .ireturn, 1)]
def zdl_57 : List (Nat × Instr × Nat) := [(0, .iconst 1, 1), (1, .istore_n 2, 1), (2, .iload_n 2, 1), (3, .aload_n 0, 1), (4, .getfield 40, 3), (7, .getfield 91, 3), (10, .if_icmp .ge 37, 3), (13, .iconst 0, 1), (14, .istore_n 3, 1), (15, .iload_n 3, 1), (16, .iload_n 2, 1), (17, .if_icmp .ge 24, 3), (20, .aload_n 0, 1), (21, .aload_n 0, 1), (22, .getfield 28, 3), (25, .iload_n 3, 1), (26, .iload_n 2, 1), (27, .invokestatic 98, 3), (30, .iload_n 3, 1), (31, .iload_n 2, 1), (32, .invokevirtual 62, 3), (35, .iinc 3 1, 3), (38, .goto (-23), 3), (41, .iinc 2 1, 3), (44, .goto (-42), 3), (47, .iconst 0, 1), (48, .istore_n 2, 1), (49, .iload_n 2, 1), (50, .aload_n 0, 1), (51, .getfield 40, 3), (54, .getfield 53, 3), (57, .if_icmp .ge 44, 3), (60, .iload_n 1, 1), (61, .iload_n 2, 1), (62, .ishr, 1), (63, .iconst 1, 1), (64, .iand, 1), (65, .iconst 1, 1), (66, .if_icmp .ne 29, 3), (69, .aload_n 0, 1), (70, .aload_n 0, 1), (71, .getfield 40, 3), (74, .getfield 56, 3), (77, .iload_n 2, 1), (78, .iaload, 1), (79, .aload_n 0, 1), (80, .getfield 40, 3), (83, .getfield 59, 3), (86, .iload_n 2, 1), (87, .iaload, 1), (88, .invokestatic 98, 3), (91, .invokevirtual 102, 3), (94, .pop, 1), (95, .iinc 2 1, 3), (98, .goto (-49), 3), (101, .return_, 1)]
def zdl_58 : List (Nat × Instr × Nat) := [(0, .iconst 1, 1), (1, .iload_n 2, 1), (2, .ishl, 1), (3, .istore_n 3, 1), (4, .iload_n 1, 1), (5, .iload_n 3, 1), (6, .iand, 1), (7, .ifCond .ne 5, 3), (10, .iconst 0, 1), (11, .ireturn, 1), (12, .aload_n 0, 1), (13, .getfield 21, 3), (16, .iload_n 1, 1), (17, .iaload, 1), (18, .iload_n 3, 1), (19, .iand, 1), (20, .ifCond .ne 7, 3), (23, .iconst 1, 1), (24, .goto 4, 3), (27, .iconst (-1), 1), (28, .ireturn, 1)]
def zdb_1 : List (ByteArray × List (Nat × Instr × Nat)) := [(cX2_howManyParts, zdl_31), (cX2_howManySets, zdl_32), (cX2_init, zdl_33), (cX2_isCircuit, zdl_34), (cX2_isClosed, zdl_35), (cX2_isCluster, zdl_36), (cX2_isIndependent, zdl_37), (cX2_isLeastOfPart, zdl_38), (cX2_isOfKind, zdl_39), (cX2_isSpanning, zdl_40), (cX2_meetsBasesBarely, zdl_41), (cX2_partAt, zdl_42), (cX2_rankOf, zdl_43), (cX2_refresh, zdl_44), (cX2_setAt, zdl_45), (cX2_spareBars, zdl_46), (cX2_tallyPowers, zdl_47), (cX3_bearsSigns, zdl_48), (cX3_howManyPairs, zdl_49), (cX3_init, zdl_50), (cX3_lacking, zdl_51), (cX3_link, zdl_52), (cX3_noteStress, zdl_53), (cX3_pairRow, zdl_54), (cX3_prepare, zdl_55), (cX3_raises, zdl_56), (cX3_spanPairs, zdl_57), (cX3_stressSign, zdl_58)]
set_option maxRecDepth 100000 in
theorem zdo_31 : zdl_31.all (fun e => decide (decode cX2_howManyParts e.1 = .ok e.2)) = true := by decide +kernel
set_option maxRecDepth 100000 in
theorem zdo_32 : zdl_32.all (fun e => decide (decode cX2_howManySets e.1 = .ok e.2)) = true := by decide +kernel
set_option maxRecDepth 100000 in
theorem zdo_33 : zdl_33.all (fun e => decide (decode cX2_init e.1 = .ok e.2)) = true := by decide +kernel
set_option maxRecDepth 100000 in
theorem zdo_34 : zdl_34.all (fun e => decide (decode cX2_isCircuit e.1 = .ok e.2)) = true := by decide +kernel
set_option maxRecDepth 100000 in
theorem zdo_35 : zdl_35.all (fun e => decide (decode cX2_isClosed e.1 = .ok e.2)) = true := by decide +kernel
set_option maxRecDepth 100000 in
theorem zdo_36 : zdl_36.all (fun e => decide (decode cX2_isCluster e.1 = .ok e.2)) = true := by decide +kernel
set_option maxRecDepth 100000 in
theorem zdo_37 : zdl_37.all (fun e => decide (decode cX2_isIndependent e.1 = .ok e.2)) = true := by decide +kernel
set_option maxRecDepth 100000 in
theorem zdo_38 : zdl_38.all (fun e => decide (decode cX2_isLeastOfPart e.1 = .ok e.2)) = true := by decide +kernel
set_option maxRecDepth 100000 in
theorem zdo_39 : zdl_39.all (fun e => decide (decode cX2_isOfKind e.1 = .ok e.2)) = true := by decide +kernel
set_option maxRecDepth 100000 in
theorem zdo_40 : zdl_40.all (fun e => decide (decode cX2_isSpanning e.1 = .ok e.2)) = true := by decide +kernel
set_option maxRecDepth 100000 in
theorem zdo_41 : zdl_41.all (fun e => decide (decode cX2_meetsBasesBarely e.1 = .ok e.2)) = true := by decide +kernel
set_option maxRecDepth 100000 in
theorem zdo_42 : zdl_42.all (fun e => decide (decode cX2_partAt e.1 = .ok e.2)) = true := by decide +kernel
set_option maxRecDepth 100000 in
theorem zdo_43 : zdl_43.all (fun e => decide (decode cX2_rankOf e.1 = .ok e.2)) = true := by decide +kernel
set_option maxRecDepth 100000 in
theorem zdo_44 : zdl_44.all (fun e => decide (decode cX2_refresh e.1 = .ok e.2)) = true := by decide +kernel
set_option maxRecDepth 100000 in
theorem zdo_45 : zdl_45.all (fun e => decide (decode cX2_setAt e.1 = .ok e.2)) = true := by decide +kernel
set_option maxRecDepth 100000 in
theorem zdo_46 : zdl_46.all (fun e => decide (decode cX2_spareBars e.1 = .ok e.2)) = true := by decide +kernel
set_option maxRecDepth 100000 in
theorem zdo_47 : zdl_47.all (fun e => decide (decode cX2_tallyPowers e.1 = .ok e.2)) = true := by decide +kernel
set_option maxRecDepth 100000 in
theorem zdo_48 : zdl_48.all (fun e => decide (decode cX3_bearsSigns e.1 = .ok e.2)) = true := by decide +kernel
set_option maxRecDepth 100000 in
theorem zdo_49 : zdl_49.all (fun e => decide (decode cX3_howManyPairs e.1 = .ok e.2)) = true := by decide +kernel
set_option maxRecDepth 100000 in
theorem zdo_50 : zdl_50.all (fun e => decide (decode cX3_init e.1 = .ok e.2)) = true := by decide +kernel
set_option maxRecDepth 100000 in
theorem zdo_51 : zdl_51.all (fun e => decide (decode cX3_lacking e.1 = .ok e.2)) = true := by decide +kernel
set_option maxRecDepth 100000 in
theorem zdo_52 : zdl_52.all (fun e => decide (decode cX3_link e.1 = .ok e.2)) = true := by decide +kernel
set_option maxRecDepth 100000 in
theorem zdo_53 : zdl_53.all (fun e => decide (decode cX3_noteStress e.1 = .ok e.2)) = true := by decide +kernel
set_option maxRecDepth 100000 in
theorem zdo_54 : zdl_54.all (fun e => decide (decode cX3_pairRow e.1 = .ok e.2)) = true := by decide +kernel
set_option maxRecDepth 100000 in
theorem zdo_55 : zdl_55.all (fun e => decide (decode cX3_prepare e.1 = .ok e.2)) = true := by decide +kernel
set_option maxRecDepth 100000 in
theorem zdo_56 : zdl_56.all (fun e => decide (decode cX3_raises e.1 = .ok e.2)) = true := by decide +kernel
set_option maxRecDepth 100000 in
theorem zdo_57 : zdl_57.all (fun e => decide (decode cX3_spanPairs e.1 = .ok e.2)) = true := by decide +kernel
set_option maxRecDepth 100000 in
theorem zdo_58 : zdl_58.all (fun e => decide (decode cX3_stressSign e.1 = .ok e.2)) = true := by decide +kernel
theorem zdk_1 : ∀ q ∈ zdb_1, q.2.all (fun e => decide (decode q.1 e.1 = .ok e.2)) = true := by
  intro q hq
  simp only [zdb_1, List.mem_cons, List.not_mem_nil, or_false] at hq
  rcases hq with rfl | rfl | rfl | rfl | rfl | rfl | rfl | rfl | rfl | rfl | rfl | rfl | rfl | rfl | rfl | rfl | rfl | rfl | rfl | rfl | rfl | rfl | rfl | rfl | rfl | rfl | rfl | rfl
  · exact zdo_31
  · exact zdo_32
  · exact zdo_33
  · exact zdo_34
  · exact zdo_35
  · exact zdo_36
  · exact zdo_37
  · exact zdo_38
  · exact zdo_39
  · exact zdo_40
  · exact zdo_41
  · exact zdo_42
  · exact zdo_43
  · exact zdo_44
  · exact zdo_45
  · exact zdo_46
  · exact zdo_47
  · exact zdo_48
  · exact zdo_49
  · exact zdo_50
  · exact zdo_51
  · exact zdo_52
  · exact zdo_53
  · exact zdo_54
  · exact zdo_55
  · exact zdo_56
  · exact zdo_57
  · exact zdo_58
end
section
def zdl_59 : List (Nat × Instr × Nat) := [(0, .aload_n 0, 1), (1, .getfield 28, 3), (4, .aload_n 0, 1), (5, .getfield 28, 3), (8, .iload_n 1, 1), (9, .iconst 0, 1), (10, .aload_n 0, 1), (11, .invokevirtual 94, 3), (14, .invokevirtual 83, 3), (17, .ireturn, 1)]
def zdl_60 : List (Nat × Instr × Nat) := [(0, .aload_n 1, 1), (1, .iload_n 2, 1), (2, .invokevirtual 36, 3), (5, .iconst 0, 1), (6, .istore 5, 2), (8, .iload 5, 2), (10, .aload_n 0, 1), (11, .getfield 32, 3), (14, .if_icmp .ge 88, 3), (17, .aload_n 0, 1), (18, .getfield 40, 3), (21, .getfield 44, 3), (24, .iload_n 3, 1), (25, .iconst 3, 1), (26, .imul, 1), (27, .iload 5, 2), (29, .iadd, 1), (30, .iaload, 1), (31, .aload_n 0, 1), (32, .getfield 40, 3), (35, .getfield 44, 3), (38, .iload 4, 2), (40, .iconst 3, 1), (41, .imul, 1), (42, .iload 5, 2), (44, .iadd, 1), (45, .iaload, 1), (46, .isub, 1), (47, .istore 6, 2), (49, .iload_n 3, 1), (50, .ifCond .le 21, 3), (53, .aload_n 1, 1), (54, .iload_n 2, 1), (55, .iload_n 3, 1), (56, .iconst 1, 1), (57, .isub, 1), (58, .aload_n 0, 1), (59, .getfield 32, 3), (62, .imul, 1), (63, .iload 5, 2), (65, .iadd, 1), (66, .iload 6, 2), (68, .invokevirtual 49, 3), (71, .iload 4, 2), (73, .ifCond .le 23, 3), (76, .aload_n 1, 1), (77, .iload_n 2, 1), (78, .iload 4, 2), (80, .iconst 1, 1), (81, .isub, 1), (82, .aload_n 0, 1), (83, .getfield 32, 3), (86, .imul, 1), (87, .iload 5, 2), (89, .iadd, 1), (90, .iload 6, 2), (92, .ineg, 1), (93, .invokevirtual 49, 3), (96, .iinc 5 1, 3), (99, .goto (-91), 3), (102, .return_, 1)]
def zdl_61 : List (Nat × Instr × Nat) := [(0, .ldc2_w 9, 3), (3, .lstore_n 2, 1), (4, .lload_n 0, 1), (5, .lstore 4, 2), (7, .lconst 0, 1), (8, .lstore 6, 2), (10, .lconst 1, 1), (11, .lstore 8, 2), (13, .iconst 0, 1), (14, .istore 10, 2), (16, .iload 10, 2), (18, .sipush 200, 3), (21, .if_icmp .ge 56, 3), (24, .lload 4, 2), (26, .lconst 0, 1), (27, .lcmp, 1), (28, .ifCond .eq 49, 3), (31, .lload_n 2, 1), (32, .lload 4, 2), (34, .ldiv, 1), (35, .lstore 11, 2), (37, .lload_n 2, 1), (38, .lload 11, 2), (40, .lload 4, 2), (42, .lmul, 1), (43, .lsub, 1), (44, .lstore 13, 2), (46, .lload 6, 2), (48, .lload 11, 2), (50, .lload 8, 2), (52, .lmul, 1), (53, .lsub, 1), (54, .lstore 15, 2), (56, .lload 4, 2), (58, .lstore_n 2, 1), (59, .lload 13, 2), (61, .lstore 4, 2), (63, .lload 8, 2), (65, .lstore 6, 2), (67, .lload 15, 2), (69, .lstore 8, 2), (71, .iinc 10 1, 3), (74, .goto (-58), 3), (77, .lload 6, 2), (79, .lconst 0, 1), (80, .lcmp, 1), (81, .ifCond .ge 12, 3), (84, .lload 6, 2), (86, .ldc2_w 9, 3), (89, .ladd, 1), (90, .goto 5, 3), (93, .lload 6, 2), (95, .lreturn, 1)]
def zdl_62 : List (Nat × Instr × Nat) := [(0, .lload_n 0, 1), (1, .ldc2_w 11, 3), (4, .lcmp, 1), (5, .ifCond .le 7, 3), (8, .iconst 1, 1), (9, .goto 4, 3), (12, .iconst 0, 1), (13, .ireturn, 1)]
def zdl_63 : List (Nat × Instr × Nat) := [(0, .lload_n 0, 1), (1, .lload_n 2, 1), (2, .lcmp, 1), (3, .ifCond .lt 9, 3), (6, .lload_n 0, 1), (7, .lload_n 2, 1), (8, .lsub, 1), (9, .goto 10, 3), (12, .lload_n 0, 1), (13, .lload_n 2, 1), (14, .lsub, 1), (15, .ldc2_w 9, 3), (18, .ladd, 1), (19, .lreturn, 1)]
def zdl_64 : List (Nat × Instr × Nat) := [(0, .iload_n 0, 1), (1, .ifCond .ge 12, 3), (4, .iload_n 0, 1), (5, .i2l, 1), (6, .ldc2_w 9, 3), (9, .ladd, 1), (10, .goto 5, 3), (13, .iload_n 0, 1), (14, .i2l, 1), (15, .lreturn, 1)]
def zdl_65 : List (Nat × Instr × Nat) := [(0, .lload_n 0, 1), (1, .bipush 31, 2), (3, .lushr, 1), (4, .lstore 4, 2), (6, .lload_n 0, 1), (7, .ldc2_w 13, 3), (10, .land, 1), (11, .lstore 6, 2), (13, .lload_n 2, 1), (14, .bipush 31, 2), (16, .lushr, 1), (17, .lstore 8, 2), (19, .lload_n 2, 1), (20, .ldc2_w 13, 3), (23, .land, 1), (24, .lstore 10, 2), (26, .lload 6, 2), (28, .lload 8, 2), (30, .lmul, 1), (31, .lload 4, 2), (33, .lload 10, 2), (35, .lmul, 1), (36, .ladd, 1), (37, .lstore 12, 2), (39, .ldc2_w 15, 3), (42, .lload 4, 2), (44, .lmul, 1), (45, .lload 8, 2), (47, .lmul, 1), (48, .lload 12, 2), (50, .bipush 30, 2), (52, .lushr, 1), (53, .ladd, 1), (54, .lload 12, 2), (56, .ldc2_w 17, 3), (59, .land, 1), (60, .bipush 31, 2), (62, .lshl, 1), (63, .ladd, 1), (64, .lload 6, 2), (66, .lload 10, 2), (68, .lmul, 1), (69, .ladd, 1), (70, .lstore 14, 2), (72, .lload 14, 2), (74, .ldc2_w 9, 3), (77, .land, 1), (78, .lload 14, 2), (80, .bipush 61, 2), (82, .lushr, 1), (83, .ladd, 1), (84, .lstore 16, 2), (86, .lload 16, 2), (88, .ldc2_w 9, 3), (91, .lcmp, 1), (92, .ifCond .lt 12, 3), (95, .lload 16, 2), (97, .ldc2_w 9, 3), (100, .lsub, 1), (101, .goto 5, 3), (104, .lload 16, 2), (106, .lreturn, 1)]
def zdl_66 : List (Nat × Instr × Nat) := [(0, .iconst 0, 1), (1, .istore_n 2, 1), (2, .iload_n 2, 1), (3, .aload_n 0, 1), (4, .getfield 7, 3), (7, .if_icmp .ge 23, 3), (10, .aload_n 0, 1), (11, .getfield 13, 3), (14, .iload_n 1, 1), (15, .aload_n 0, 1), (16, .getfield 7, 3), (19, .imul, 1), (20, .iload_n 2, 1), (21, .iadd, 1), (22, .lconst 0, 1), (23, .lastore, 1), (24, .iinc 2 1, 3), (27, .goto (-25), 3), (30, .return_, 1)]
def zdl_67 : List (Nat × Instr × Nat) := [(0, .aload_n 0, 1), (1, .getfield 13, 3), (4, .iload_n 1, 1), (5, .aload_n 0, 1), (6, .getfield 7, 3), (9, .imul, 1), (10, .iload_n 2, 1), (11, .iadd, 1), (12, .laload, 1), (13, .lreturn, 1)]
def zdl_68 : List (Nat × Instr × Nat) := [(0, .aload_n 0, 1), (1, .invokespecial 1, 3), (4, .aload_n 0, 1), (5, .iload_n 2, 1), (6, .putfield 7, 3), (9, .aload_n 0, 1), (10, .iload_n 1, 1), (11, .iload_n 2, 1), (12, .imul, 1), (13, .newarray .long, 2), (15, .putfield 13, 3), (18, .aload_n 0, 1), (19, .iload_n 2, 1), (20, .newarray .long, 2), (22, .putfield 17, 3), (25, .return_, 1)]
def zdl_69 : List (Nat × Instr × Nat) := [(0, .iconst 0, 1), (1, .istore_n 2, 1), (2, .iload_n 2, 1), (3, .bipush 12, 2), (5, .if_icmp .ge 29, 3), (8, .aload_n 0, 1), (9, .getfield 13, 3), (12, .iload_n 1, 1), (13, .aload_n 0, 1), (14, .getfield 7, 3), (17, .imul, 1), (18, .iload_n 2, 1), (19, .iadd, 1), (20, .laload, 1), (21, .lconst 0, 1), (22, .lcmp, 1), (23, .ifCond .eq 5, 3), (26, .iload_n 2, 1), (27, .ireturn, 1), (28, .iinc 2 1, 3), (31, .goto (-29), 3), (34, .iconst (-1), 1), (35, .ireturn, 1)]
def zdl_70 : List (Nat × Instr × Nat) := [(0, .aload_n 0, 1), (1, .getfield 13, 3), (4, .iload_n 1, 1), (5, .aload_n 0, 1), (6, .getfield 7, 3), (9, .imul, 1), (10, .iload_n 2, 1), (11, .iadd, 1), (12, .iload_n 3, 1), (13, .invokestatic 20, 3), (16, .lastore, 1), (17, .return_, 1)]
def zdl_71 : List (Nat × Instr × Nat) := [(0, .aload_n 0, 1), (1, .iload_n 2, 1), (2, .invokevirtual 26, 3), (5, .istore 5, 2), (7, .iload 5, 2), (9, .ifCond .ge 5, 3), (12, .iconst 0, 1), (13, .ireturn, 1), (14, .aload_n 0, 1), (15, .iload_n 2, 1), (16, .iload 5, 2), (18, .invokevirtual 30, 3), (21, .invokestatic 34, 3), (24, .lstore 6, 2), (26, .iconst 0, 1), (27, .istore 8, 2), (29, .iload 8, 2), (31, .aload_n 0, 1), (32, .getfield 7, 3), (35, .if_icmp .ge 50, 3), (38, .aload_n 0, 1), (39, .getfield 13, 3), (42, .iload_n 2, 1), (43, .aload_n 0, 1), (44, .getfield 7, 3), (47, .imul, 1), (48, .iload 8, 2), (50, .iadd, 1), (51, .laload, 1), (52, .lstore 9, 2), (54, .aload_n 0, 1), (55, .getfield 17, 3), (58, .iload 8, 2), (60, .lload 9, 2), (62, .lconst 0, 1), (63, .lcmp, 1), (64, .ifCond .ne 7, 3), (67, .lconst 0, 1), (68, .goto 10, 3), (71, .lload 9, 2), (73, .lload 6, 2), (75, .invokestatic 38, 3), (78, .lastore, 1), (79, .iinc 8 1, 3), (82, .goto (-53), 3), (85, .iload_n 3, 1), (86, .istore 8, 2), (88, .iload 8, 2), (90, .iload 4, 2), (92, .if_icmp .ge 121, 3), (95, .iload 8, 2), (97, .aload_n 0, 1), (98, .getfield 7, 3), (101, .imul, 1), (102, .istore 9, 2), (104, .aload_n 0, 1), (105, .getfield 13, 3), (108, .iload 9, 2), (110, .iload 5, 2), (112, .iadd, 1), (113, .laload, 1), (114, .lstore 10, 2), (116, .aload_n 0, 1), (117, .getfield 13, 3), (120, .iload 9, 2), (122, .aload_n 1, 1), (123, .getfield 13, 3), (126, .iload 9, 2), (128, .aload_n 0, 1), (129, .getfield 7, 3), (132, .invokestatic 42, 3), (135, .iconst 0, 1), (136, .istore 12, 2), (138, .lload 10, 2), (140, .lconst 0, 1), (141, .lcmp, 1), (142, .ifCond .eq 65, 3), (145, .iload 12, 2), (147, .aload_n 0, 1), (148, .getfield 7, 3), (151, .if_icmp .ge 56, 3), (154, .aload_n 0, 1), (155, .getfield 17, 3), (158, .iload 12, 2), (160, .laload, 1), (161, .lconst 0, 1), (162, .lcmp, 1), (163, .ifCond .eq 38, 3), (166, .aload_n 1, 1), (167, .getfield 13, 3), (170, .iload 9, 2), (172, .iload 12, 2), (174, .iadd, 1), (175, .aload_n 0, 1), (176, .getfield 13, 3), (179, .iload 9, 2), (181, .iload 12, 2), (183, .iadd, 1), (184, .laload, 1), (185, .lload 10, 2), (187, .aload_n 0, 1), (188, .getfield 17, 3), (191, .iload 12, 2), (193, .laload, 1), (194, .invokestatic 38, 3), (197, .invokestatic 48, 3), (200, .lastore, 1), (201, .iinc 12 1, 3), (204, .goto (-66), 3), (207, .iinc 8 1, 3), (210, .goto (-122), 3), (213, .iconst 1, 1), (214, .ireturn, 1)]
def zdl_72 : List (Nat × Instr × Nat) := [(0, .aload_n 0, 1), (1, .getfield 12, 3), (4, .iload_n 1, 1), (5, .invokevirtual 34, 3), (8, .ifCond .eq 12, 3), (11, .iload_n 2, 1), (12, .ifCond .lt 8, 3), (15, .iload_n 2, 1), (16, .iconst 3, 1), (17, .if_icmp .lt 6, 3), (20, .bipush (-2), 2), (22, .ireturn, 1), (23, .aload_n 0, 1), (24, .getfield 12, 3), (27, .getfield 79, 3), (30, .iload_n 1, 1), (31, .iconst 3, 1), (32, .imul, 1), (33, .iload_n 2, 1), (34, .iadd, 1), (35, .iaload, 1), (36, .ireturn, 1)]
def zdl_73 : List (Nat × Instr × Nat) := [(0, .aload_n 0, 1), (1, .iload_n 1, 1), (2, .iload_n 2, 1), (3, .invokevirtual 45, 3), (6, .ifCond .ne 6, 3), (9, .bipush (-2), 2), (11, .ireturn, 1), (12, .aload_n 0, 1), (13, .getfield 12, 3), (16, .iload_n 1, 1), (17, .iload_n 2, 1), (18, .invokevirtual 49, 3), (21, .ifCond .eq 6, 3), (24, .bipush (-4), 2), (26, .ireturn, 1), (27, .aload_n 0, 1), (28, .getfield 12, 3), (31, .getfield 52, 3), (34, .bipush 12, 2), (36, .if_icmp .lt 6, 3), (39, .bipush (-3), 2), (41, .ireturn, 1), (42, .aload_n 0, 1), (43, .getfield 12, 3), (46, .iload_n 1, 1), (47, .iload_n 2, 1), (48, .invokevirtual 55, 3), (51, .ireturn, 1)]
def zdl_74 : List (Nat × Instr × Nat) := [(0, .iload_n 1, 1), (1, .iconst 1, 1), (2, .if_icmp .lt 9, 3), (5, .iload_n 1, 1), (6, .bipush 7, 2), (8, .if_icmp .le 6, 3), (11, .bipush (-2), 2), (13, .ireturn, 1), (14, .aload_n 0, 1), (15, .getfield 12, 3), (18, .getfield 26, 3), (21, .istore_n 2, 1), (22, .aload_n 0, 1), (23, .getfield 12, 3), (26, .iload_n 1, 1), (27, .invokevirtual 30, 3), (30, .iload_n 2, 1), (31, .ireturn, 1)]
def zdl_75 : List (Nat × Instr × Nat) := [(0, .aload_n 0, 1), (1, .getfield 12, 3), (4, .iload_n 1, 1), (5, .invokevirtual 34, 3), (8, .ifCond .eq 12, 3), (11, .aload_n 0, 1), (12, .iconst 0, 1), (13, .iconst 0, 1), (14, .invokevirtual 141, 3), (17, .ifCond .ne 5, 3), (20, .iconst (-1), 1), (21, .ireturn, 1), (22, .aload_n 0, 1), (23, .getfield 22, 3), (26, .iload_n 1, 1), (27, .iaload, 1), (28, .ireturn, 1)]
def zdl_76 : List (Nat × Instr × Nat) := [(0, .aload_n 0, 1), (1, .iload_n 1, 1), (2, .invokevirtual 82, 3), (5, .astore_n 3, 1), (6, .aload_n 3, 1), (7, .ifnull 14, 3), (10, .aload_n 0, 1), (11, .getfield 12, 3), (14, .iload_n 2, 1), (15, .invokevirtual 86, 3), (18, .ifCond .ne 6, 3), (21, .bipush (-2), 2), (23, .ireturn, 1), (24, .aload_n 3, 1), (25, .iload_n 2, 1), (26, .invokevirtual 92, 3), (29, .ireturn, 1)]
def zdl_77 : List (Nat × Instr × Nat) := [(0, .aload_n 0, 1), (1, .iload_n 1, 1), (2, .invokevirtual 82, 3), (5, .astore_n 3, 1), (6, .aload_n 3, 1), (7, .ifnonnull 6, 3), (10, .bipush (-2), 2), (12, .ireturn, 1), (13, .aload_n 3, 1), (14, .aload_n 0, 1), (15, .getfield 12, 3), (18, .invokevirtual 122, 3), (21, .invokevirtual 95, 3), (24, .aload_n 3, 1), (25, .iload_n 2, 1), (26, .invokevirtual 125, 3), (29, .ireturn, 1)]
def zdl_78 : List (Nat × Instr × Nat) := [(0, .aload_n 0, 1), (1, .iload_n 1, 1), (2, .invokevirtual 82, 3), (5, .astore 4, 2), (7, .aload 4, 2), (9, .ifnonnull 6, 3), (12, .bipush (-2), 2), (14, .ireturn, 1), (15, .iload_n 2, 1), (16, .ifCond .lt 19, 3), (19, .iload_n 2, 1), (20, .bipush 12, 2), (22, .if_icmp .gt 13, 3), (25, .iload_n 3, 1), (26, .ifCond .lt 9, 3), (29, .iload_n 3, 1), (30, .bipush 12, 2), (32, .if_icmp .le 5, 3), (35, .iconst 0, 1), (36, .ireturn, 1), (37, .aload 4, 2), (39, .iload_n 2, 1), (40, .iload_n 3, 1), (41, .invokevirtual 119, 3), (44, .ireturn, 1)]
def zdl_79 : List (Nat × Instr × Nat) := [(0, .iload_n 1, 1), (1, .tableswitch 65 0 3 #[31, 39, 47, 56], 31), (32, .aload_n 0, 1), (33, .getfield 12, 3), (36, .getfield 26, 3), (39, .ireturn, 1), (40, .aload_n 0, 1), (41, .getfield 12, 3), (44, .getfield 52, 3), (47, .ireturn, 1), (48, .aload_n 0, 1), (49, .getfield 12, 3), (52, .iconst 1, 1), (53, .invokevirtual 69, 3), (56, .ireturn, 1), (57, .aload_n 0, 1), (58, .getfield 12, 3), (61, .iconst (-1), 1), (62, .invokevirtual 69, 3), (65, .ireturn, 1), (66, .bipush (-2), 2), (68, .ireturn, 1)]
def zdl_80 : List (Nat × Instr × Nat) := [(0, .aload_n 0, 1), (1, .getfield 12, 3), (4, .iload_n 1, 1), (5, .invokevirtual 63, 3), (8, .ifCond .eq 12, 3), (11, .iload_n 2, 1), (12, .ifCond .lt 8, 3), (15, .iload_n 2, 1), (16, .iconst 1, 1), (17, .if_icmp .le 6, 3), (20, .bipush (-2), 2), (22, .ireturn, 1), (23, .iload_n 2, 1), (24, .ifCond .ne 15, 3), (27, .aload_n 0, 1), (28, .getfield 12, 3), (31, .getfield 73, 3), (34, .iload_n 1, 1), (35, .iaload, 1), (36, .goto 12, 3), (39, .aload_n 0, 1), (40, .getfield 12, 3), (43, .getfield 76, 3), (46, .iload_n 1, 1), (47, .iaload, 1), (48, .ireturn, 1)]
def zdl_81 : List (Nat × Instr × Nat) := [(0, .aload_n 0, 1), (1, .iload_n 1, 1), (2, .invokevirtual 82, 3), (5, .astore_n 3, 1), (6, .aload_n 3, 1), (7, .instanceof 128, 3), (10, .ifCond .eq 28, 3), (13, .aload_n 3, 1), (14, .checkcast 128, 3), (17, .astore_n 2, 1), (18, .aload_n 2, 1), (19, .invokevirtual 136, 3), (22, .ifCond .ne 14, 3), (25, .aload_n 2, 1), (26, .invokevirtual 137, 3), (29, .ifCond .eq 7, 3), (32, .iconst 1, 1), (33, .goto 4, 3), (36, .iconst 0, 1), (37, .ireturn, 1), (38, .bipush (-2), 2), (40, .ireturn, 1)]
def zdl_82 : List (Nat × Instr × Nat) := [(0, .aload_n 0, 1), (1, .iload_n 1, 1), (2, .invokevirtual 82, 3), (5, .astore 5, 2), (7, .aload 5, 2), (9, .ifnull 24, 3), (12, .aload_n 0, 1), (13, .iload_n 2, 1), (14, .iload_n 3, 1), (15, .invokevirtual 45, 3), (18, .ifCond .eq 15, 3), (21, .aload_n 0, 1), (22, .getfield 12, 3), (25, .iload 4, 2), (27, .invokevirtual 86, 3), (30, .ifCond .ne 6, 3), (33, .bipush (-2), 2), (35, .ireturn, 1), (36, .aload 5, 2), (38, .iload 4, 2), (40, .invokevirtual 95, 3), (43, .aload 5, 2), (45, .getfield 98, 3), (48, .iload_n 2, 1), (49, .iaload, 1), (50, .iload_n 3, 1), (51, .ishr, 1), (52, .iconst 1, 1), (53, .iand, 1), (54, .ireturn, 1)]
def zdl_83 : List (Nat × Instr × Nat) := [(0, .aload_n 0, 1), (1, .invokespecial 3, 3), (4, .aload_n 0, 1), (5, .new 9, 3), (8, .dup, 1), (9, .invokespecial 11, 3), (12, .putfield 12, 3), (15, .aload_n 0, 1), (16, .iconst 3, 1), (17, .anewarray 16, 3), (20, .putfield 18, 3), (23, .aload_n 0, 1), (24, .bipush 7, 2), (26, .newarray .int, 2), (28, .putfield 22, 3), (31, .return_, 1)]
def zdl_84 : List (Nat × Instr × Nat) := [(0, .aload_n 0, 1), (1, .getfield 12, 3), (4, .iload_n 1, 1), (5, .invokevirtual 34, 3), (8, .ifCond .eq 23, 3), (11, .aload_n 0, 1), (12, .getfield 12, 3), (15, .iload_n 2, 1), (16, .invokevirtual 34, 3), (19, .ifCond .eq 12, 3), (22, .iload_n 1, 1), (23, .iload_n 2, 1), (24, .if_icmp .eq 7, 3), (27, .iconst 1, 1), (28, .goto 4, 3), (31, .iconst 0, 1), (32, .ireturn, 1)]
def zdl_85 : List (Nat × Instr × Nat) := [(0, .iload_n 0, 1), (1, .bipush (-4), 2), (3, .if_icmp .lt 8, 3), (6, .iload_n 0, 1), (7, .iconst 4, 1), (8, .if_icmp .le 7, 3), (11, .iconst 1, 1), (12, .goto 4, 3), (15, .iconst 0, 1), (16, .ireturn, 1)]
def zdl_86 : List (Nat × Instr × Nat) := [(0, .aload_n 0, 1), (1, .getfield 12, 3), (4, .iload_n 1, 1), (5, .invokevirtual 34, 3), (8, .ifCond .eq 25, 3), (11, .iload_n 2, 1), (12, .invokestatic 38, 3), (15, .ifCond .ne 18, 3), (18, .iload_n 3, 1), (19, .invokestatic 38, 3), (22, .ifCond .ne 11, 3), (25, .iload 4, 2), (27, .invokestatic 38, 3), (30, .ifCond .eq 6, 3), (33, .bipush (-2), 2), (35, .ireturn, 1), (36, .aload_n 0, 1), (37, .getfield 12, 3), (40, .iload_n 1, 1), (41, .iload_n 2, 1), (42, .iload_n 3, 1), (43, .iload 4, 2), (45, .invokevirtual 41, 3), (48, .ifCond .eq 7, 3), (51, .iconst 1, 1), (52, .goto 4, 3), (55, .iconst 0, 1), (56, .ireturn, 1)]
def zdl_87 : List (Nat × Instr × Nat) := [(0, .aload_n 0, 1), (1, .iload_n 1, 1), (2, .invokevirtual 82, 3), (5, .astore_n 2, 1), (6, .aload_n 2, 1), (7, .ifnonnull 6, 3), (10, .bipush (-2), 2), (12, .ireturn, 1), (13, .aload_n 2, 1), (14, .invokevirtual 101, 3), (17, .ireturn, 1)]
def zdl_88 : List (Nat × Instr × Nat) := [(0, .iload_n 1, 1), (1, .aload_n 0, 1), (2, .getfield 12, 3), (5, .getfield 26, 3), (8, .if_icmp .lt 5, 3), (11, .iconst 1, 1), (12, .ireturn, 1), (13, .iload_n 1, 1), (14, .iconst 2, 1), (15, .invokestatic 161, 3), (18, .istore_n 3, 1), (19, .iconst 0, 1), (20, .istore 4, 2), (22, .iload 4, 2), (24, .aload_n 0, 1), (25, .getfield 12, 3), (28, .getfield 26, 3), (31, .if_icmp .ge 74, 3), (34, .iload_n 2, 1), (35, .iload 4, 2), (37, .ishr, 1), (38, .iconst 1, 1), (39, .iand, 1), (40, .ifCond .ne 7, 3), (43, .iconst 1, 1), (44, .goto 4, 3), (47, .iconst 0, 1), (48, .istore 5, 2), (50, .iload 5, 2), (52, .ifCond .eq 47, 3), (55, .aload_n 0, 1), (56, .getfield 12, 3), (59, .iload 4, 2), (61, .invokevirtual 166, 3), (64, .iload_n 2, 1), (65, .iand, 1), (66, .invokestatic 169, 3), (69, .iload_n 3, 1), (70, .if_icmp .ne 29, 3), (73, .aload_n 0, 1), (74, .getfield 22, 3), (77, .iload_n 1, 1), (78, .iload 4, 2), (80, .iastore, 1), (81, .aload_n 0, 1), (82, .iload_n 1, 1), (83, .iconst 1, 1), (84, .iadd, 1), (85, .iload_n 2, 1), (86, .iconst 1, 1), (87, .iload 4, 2), (89, .ishl, 1), (90, .ior, 1), (91, .invokevirtual 141, 3), (94, .ifCond .eq 5, 3), (97, .iconst 1, 1), (98, .ireturn, 1), (99, .iinc 4 1, 3), (102, .goto (-80), 3), (105, .iconst 0, 1), (106, .ireturn, 1)]
def zdl_89 : List (Nat × Instr × Nat) := [(0, .iload_n 1, 1), (1, .lookupswitch 53 #[(0, 27), (1, 40)], 27), (28, .new 128, 3), (31, .dup, 1), (32, .aload_n 0, 1), (33, .getfield 12, 3), (36, .iconst 2, 1), (37, .invokespecial 153, 3), (40, .areturn, 1), (41, .new 128, 3), (44, .dup, 1), (45, .aload_n 0, 1), (46, .getfield 12, 3), (49, .iconst 3, 1), (50, .invokespecial 153, 3), (53, .areturn, 1), (54, .new 156, 3), (57, .dup, 1), (58, .aload_n 0, 1), (59, .getfield 12, 3), (62, .invokespecial 158, 3), (65, .areturn, 1)]
def zdl_90 : List (Nat × Instr × Nat) := [(0, .aload_n 0, 1), (1, .iload_n 1, 1), (2, .invokevirtual 82, 3), (5, .astore_n 3, 1), (6, .aload_n 3, 1), (7, .ifnull 13, 3), (10, .iload_n 2, 1), (11, .ifCond .lt 9, 3), (14, .iload_n 2, 1), (15, .bipush 7, 2), (17, .if_icmp .lt 6, 3), (20, .bipush (-2), 2), (22, .ireturn, 1), (23, .iload_n 2, 1), (24, .iconst 4, 1), (25, .if_icmp .ne 10, 3), (28, .aload_n 3, 1), (29, .invokevirtual 107, 3), (32, .goto 8, 3), (35, .aload_n 3, 1), (36, .iload_n 2, 1), (37, .invokevirtual 110, 3), (40, .ireturn, 1)]
def zdl_91 : List (Nat × Instr × Nat) := [(0, .iload_n 1, 1), (1, .ifCond .lt 24, 3), (4, .iload_n 1, 1), (5, .iconst 3, 1), (6, .if_icmp .ge 19, 3), (9, .iload_n 1, 1), (10, .iconst 1, 1), (11, .if_icmp .ne 16, 3), (14, .aload_n 0, 1), (15, .getfield 12, 3), (18, .getfield 26, 3), (21, .iconst 5, 1), (22, .if_icmp .le 5, 3), (25, .aconst_null, 1), (26, .areturn, 1), (27, .aload_n 0, 1), (28, .getfield 18, 3), (31, .iload_n 1, 1), (32, .aaload, 1), (33, .ifnonnull 14, 3), (36, .aload_n 0, 1), (37, .getfield 18, 3), (40, .iload_n 1, 1), (41, .aload_n 0, 1), (42, .iload_n 1, 1), (43, .invokevirtual 147, 3), (46, .aastore, 1), (47, .aload_n 0, 1), (48, .getfield 18, 3), (51, .iload_n 1, 1), (52, .aaload, 1), (53, .invokevirtual 150, 3), (56, .aload_n 0, 1), (57, .getfield 18, 3), (60, .iload_n 1, 1), (61, .aaload, 1), (62, .areturn, 1)]
def zdl_92 : List (Nat × Instr × Nat) := [(0, .aload_n 0, 1), (1, .getfield 12, 3), (4, .getfield 26, 3), (7, .istore_n 1, 1), (8, .iload_n 1, 1), (9, .iconst 3, 1), (10, .if_icmp .gt 26, 3), (13, .aload_n 0, 1), (14, .getfield 12, 3), (17, .getfield 52, 3), (20, .iload_n 1, 1), (21, .iload_n 1, 1), (22, .iconst 1, 1), (23, .isub, 1), (24, .imul, 1), (25, .iconst 2, 1), (26, .idiv, 1), (27, .if_icmp .ne 7, 3), (30, .iconst 1, 1), (31, .goto 4, 3), (34, .iconst 0, 1), (35, .ireturn, 1), (36, .aload_n 0, 1), (37, .iconst 2, 1), (38, .invokevirtual 82, 3), (41, .astore_n 2, 1), (42, .aload_n 2, 1), (43, .ifnull 24, 3), (46, .aload_n 2, 1), (47, .invokevirtual 104, 3), (50, .aload_n 0, 1), (51, .getfield 12, 3), (54, .invokevirtual 122, 3), (57, .if_icmp .ne 10, 3), (60, .aload_n 2, 1), (61, .invokevirtual 101, 3), (64, .ifCond .eq 5, 3), (67, .iconst 0, 1), (68, .ireturn, 1), (69, .aload_n 0, 1), (70, .invokevirtual 144, 3), (73, .ifCond .eq 7, 3), (76, .iconst 1, 1), (77, .goto 4, 3), (80, .iconst 0, 1), (81, .ireturn, 1)]
def zdb_2 : List (ByteArray × List (Nat × Instr × Nat)) := [(cX3_takeOut, zdl_59), (cX3_writeRow, zdl_60), (cX4_inverse, zdl_61), (cX4_isBelowZero, zdl_62), (cX4_minus, zdl_63), (cX4_of, zdl_64), (cX4_times, zdl_65), (cX5_clear, zdl_66), (cX5_get, zdl_67), (cX5_init, zdl_68), (cX5_leadColumn, zdl_69), (cX5_put, zdl_70), (cX5_reduceInto, zdl_71), (cX6_at, zdl_72), (cX6_bar, zdl_73), (cX6_begin, zdl_74), (cX6_built, zdl_75), (cX6_closure, zdl_76), (cX6_cluster, zdl_77), (cX6_coefficient, zdl_78), (cX6_count, zdl_79), (cX6_end, zdl_80), (cX6_holds, zdl_81), (cX6_implied, zdl_82), (cX6_init, zdl_83), (cX6_isPair, zdl_84), (cX6_isTooFar, zdl_85), (cX6_joint, zdl_86), (cX6_lacks, zdl_87), (cX6_lineUp, zdl_88), (cX6_makeMatroid, zdl_89), (cX6_many, zdl_90), (cX6_matroidOf, zdl_91), (cX6_oneShape, zdl_92)]
set_option maxRecDepth 100000 in
theorem zdo_59 : zdl_59.all (fun e => decide (decode cX3_takeOut e.1 = .ok e.2)) = true := by decide +kernel
set_option maxRecDepth 100000 in
theorem zdo_60 : zdl_60.all (fun e => decide (decode cX3_writeRow e.1 = .ok e.2)) = true := by decide +kernel
set_option maxRecDepth 100000 in
theorem zdo_61 : zdl_61.all (fun e => decide (decode cX4_inverse e.1 = .ok e.2)) = true := by decide +kernel
set_option maxRecDepth 100000 in
theorem zdo_62 : zdl_62.all (fun e => decide (decode cX4_isBelowZero e.1 = .ok e.2)) = true := by decide +kernel
set_option maxRecDepth 100000 in
theorem zdo_63 : zdl_63.all (fun e => decide (decode cX4_minus e.1 = .ok e.2)) = true := by decide +kernel
set_option maxRecDepth 100000 in
theorem zdo_64 : zdl_64.all (fun e => decide (decode cX4_of e.1 = .ok e.2)) = true := by decide +kernel
set_option maxRecDepth 100000 in
theorem zdo_65 : zdl_65.all (fun e => decide (decode cX4_times e.1 = .ok e.2)) = true := by decide +kernel
set_option maxRecDepth 100000 in
theorem zdo_66 : zdl_66.all (fun e => decide (decode cX5_clear e.1 = .ok e.2)) = true := by decide +kernel
set_option maxRecDepth 100000 in
theorem zdo_67 : zdl_67.all (fun e => decide (decode cX5_get e.1 = .ok e.2)) = true := by decide +kernel
set_option maxRecDepth 100000 in
theorem zdo_68 : zdl_68.all (fun e => decide (decode cX5_init e.1 = .ok e.2)) = true := by decide +kernel
set_option maxRecDepth 100000 in
theorem zdo_69 : zdl_69.all (fun e => decide (decode cX5_leadColumn e.1 = .ok e.2)) = true := by decide +kernel
set_option maxRecDepth 100000 in
theorem zdo_70 : zdl_70.all (fun e => decide (decode cX5_put e.1 = .ok e.2)) = true := by decide +kernel
set_option maxRecDepth 100000 in
theorem zdo_71 : zdl_71.all (fun e => decide (decode cX5_reduceInto e.1 = .ok e.2)) = true := by decide +kernel
set_option maxRecDepth 100000 in
theorem zdo_72 : zdl_72.all (fun e => decide (decode cX6_at e.1 = .ok e.2)) = true := by decide +kernel
set_option maxRecDepth 100000 in
theorem zdo_73 : zdl_73.all (fun e => decide (decode cX6_bar e.1 = .ok e.2)) = true := by decide +kernel
set_option maxRecDepth 100000 in
theorem zdo_74 : zdl_74.all (fun e => decide (decode cX6_begin e.1 = .ok e.2)) = true := by decide +kernel
set_option maxRecDepth 100000 in
theorem zdo_75 : zdl_75.all (fun e => decide (decode cX6_built e.1 = .ok e.2)) = true := by decide +kernel
set_option maxRecDepth 100000 in
theorem zdo_76 : zdl_76.all (fun e => decide (decode cX6_closure e.1 = .ok e.2)) = true := by decide +kernel
set_option maxRecDepth 100000 in
theorem zdo_77 : zdl_77.all (fun e => decide (decode cX6_cluster e.1 = .ok e.2)) = true := by decide +kernel
set_option maxRecDepth 100000 in
theorem zdo_78 : zdl_78.all (fun e => decide (decode cX6_coefficient e.1 = .ok e.2)) = true := by decide +kernel
set_option maxRecDepth 100000 in
theorem zdo_79 : zdl_79.all (fun e => decide (decode cX6_count e.1 = .ok e.2)) = true := by decide +kernel
set_option maxRecDepth 100000 in
theorem zdo_80 : zdl_80.all (fun e => decide (decode cX6_end e.1 = .ok e.2)) = true := by decide +kernel
set_option maxRecDepth 100000 in
theorem zdo_81 : zdl_81.all (fun e => decide (decode cX6_holds e.1 = .ok e.2)) = true := by decide +kernel
set_option maxRecDepth 100000 in
theorem zdo_82 : zdl_82.all (fun e => decide (decode cX6_implied e.1 = .ok e.2)) = true := by decide +kernel
set_option maxRecDepth 100000 in
theorem zdo_83 : zdl_83.all (fun e => decide (decode cX6_init e.1 = .ok e.2)) = true := by decide +kernel
set_option maxRecDepth 100000 in
theorem zdo_84 : zdl_84.all (fun e => decide (decode cX6_isPair e.1 = .ok e.2)) = true := by decide +kernel
set_option maxRecDepth 100000 in
theorem zdo_85 : zdl_85.all (fun e => decide (decode cX6_isTooFar e.1 = .ok e.2)) = true := by decide +kernel
set_option maxRecDepth 100000 in
theorem zdo_86 : zdl_86.all (fun e => decide (decode cX6_joint e.1 = .ok e.2)) = true := by decide +kernel
set_option maxRecDepth 100000 in
theorem zdo_87 : zdl_87.all (fun e => decide (decode cX6_lacks e.1 = .ok e.2)) = true := by decide +kernel
set_option maxRecDepth 100000 in
theorem zdo_88 : zdl_88.all (fun e => decide (decode cX6_lineUp e.1 = .ok e.2)) = true := by decide +kernel
set_option maxRecDepth 100000 in
theorem zdo_89 : zdl_89.all (fun e => decide (decode cX6_makeMatroid e.1 = .ok e.2)) = true := by decide +kernel
set_option maxRecDepth 100000 in
theorem zdo_90 : zdl_90.all (fun e => decide (decode cX6_many e.1 = .ok e.2)) = true := by decide +kernel
set_option maxRecDepth 100000 in
theorem zdo_91 : zdl_91.all (fun e => decide (decode cX6_matroidOf e.1 = .ok e.2)) = true := by decide +kernel
set_option maxRecDepth 100000 in
theorem zdo_92 : zdl_92.all (fun e => decide (decode cX6_oneShape e.1 = .ok e.2)) = true := by decide +kernel
theorem zdk_2 : ∀ q ∈ zdb_2, q.2.all (fun e => decide (decode q.1 e.1 = .ok e.2)) = true := by
  intro q hq
  simp only [zdb_2, List.mem_cons, List.not_mem_nil, or_false] at hq
  rcases hq with rfl | rfl | rfl | rfl | rfl | rfl | rfl | rfl | rfl | rfl | rfl | rfl | rfl | rfl | rfl | rfl | rfl | rfl | rfl | rfl | rfl | rfl | rfl | rfl | rfl | rfl | rfl | rfl | rfl | rfl | rfl | rfl | rfl | rfl
  · exact zdo_59
  · exact zdo_60
  · exact zdo_61
  · exact zdo_62
  · exact zdo_63
  · exact zdo_64
  · exact zdo_65
  · exact zdo_66
  · exact zdo_67
  · exact zdo_68
  · exact zdo_69
  · exact zdo_70
  · exact zdo_71
  · exact zdo_72
  · exact zdo_73
  · exact zdo_74
  · exact zdo_75
  · exact zdo_76
  · exact zdo_77
  · exact zdo_78
  · exact zdo_79
  · exact zdo_80
  · exact zdo_81
  · exact zdo_82
  · exact zdo_83
  · exact zdo_84
  · exact zdo_85
  · exact zdo_86
  · exact zdo_87
  · exact zdo_88
  · exact zdo_89
  · exact zdo_90
  · exact zdo_91
  · exact zdo_92
end
section
def zdl_93 : List (Nat × Instr × Nat) := [(0, .aload_n 0, 1), (1, .iload_n 1, 1), (2, .invokevirtual 82, 3), (5, .astore_n 3, 1), (6, .aload_n 3, 1), (7, .ifnull 14, 3), (10, .aload_n 0, 1), (11, .getfield 12, 3), (14, .iload_n 2, 1), (15, .invokevirtual 86, 3), (18, .ifCond .ne 6, 3), (21, .bipush (-2), 2), (23, .ireturn, 1), (24, .aload_n 3, 1), (25, .iload_n 2, 1), (26, .invokevirtual 89, 3), (29, .ireturn, 1)]
def zdl_94 : List (Nat × Instr × Nat) := [(0, .aload_n 0, 1), (1, .iload_n 1, 1), (2, .invokevirtual 82, 3), (5, .astore_n 2, 1), (6, .aload_n 2, 1), (7, .ifnonnull 6, 3), (10, .bipush (-2), 2), (12, .ireturn, 1), (13, .aload_n 2, 1), (14, .invokevirtual 101, 3), (17, .ifCond .ne 7, 3), (20, .iconst 1, 1), (21, .goto 4, 3), (24, .iconst 0, 1), (25, .ireturn, 1)]
def zdl_95 : List (Nat × Instr × Nat) := [(0, .aload_n 0, 1), (1, .getfield 12, 3), (4, .iload_n 1, 1), (5, .invokevirtual 63, 3), (8, .ifCond .eq 13, 3), (11, .iload_n 2, 1), (12, .iconst (-1), 1), (13, .if_icmp .lt 8, 3), (16, .iload_n 2, 1), (17, .iconst 1, 1), (18, .if_icmp .le 6, 3), (21, .bipush (-2), 2), (23, .ireturn, 1), (24, .aload_n 0, 1), (25, .getfield 12, 3), (28, .getfield 66, 3), (31, .iload_n 1, 1), (32, .iaload, 1), (33, .istore_n 3, 1), (34, .aload_n 0, 1), (35, .getfield 12, 3), (38, .getfield 66, 3), (41, .iload_n 1, 1), (42, .iload_n 2, 1), (43, .iastore, 1), (44, .iload_n 3, 1), (45, .iconst 1, 1), (46, .iadd, 1), (47, .ireturn, 1)]
def zdl_96 : List (Nat × Instr × Nat) := [(0, .aload_n 0, 1), (1, .iload_n 1, 1), (2, .invokevirtual 82, 3), (5, .astore_n 2, 1), (6, .aload_n 2, 1), (7, .ifnonnull 6, 3), (10, .bipush (-2), 2), (12, .ireturn, 1), (13, .aload_n 2, 1), (14, .invokevirtual 104, 3), (17, .ireturn, 1)]
def zdl_97 : List (Nat × Instr × Nat) := [(0, .iconst 0, 1), (1, .istore_n 1, 1), (2, .iload_n 1, 1), (3, .aload_n 0, 1), (4, .getfield 12, 3), (7, .getfield 26, 3), (10, .if_icmp .ge 61, 3), (13, .iload_n 1, 1), (14, .iconst 1, 1), (15, .iadd, 1), (16, .istore_n 2, 1), (17, .iload_n 2, 1), (18, .aload_n 0, 1), (19, .getfield 12, 3), (22, .getfield 26, 3), (25, .if_icmp .ge 40, 3), (28, .aload_n 0, 1), (29, .getfield 12, 3), (32, .aload_n 0, 1), (33, .getfield 12, 3), (36, .invokevirtual 174, 3), (39, .iconst 1, 1), (40, .iload_n 1, 1), (41, .ishl, 1), (42, .iconst (-1), 1), (43, .ixor, 1), (44, .iand, 1), (45, .iconst 1, 1), (46, .iload_n 2, 1), (47, .ishl, 1), (48, .iconst (-1), 1), (49, .ixor, 1), (50, .iand, 1), (51, .invokevirtual 177, 3), (54, .ifCond .ne 5, 3), (57, .iconst 0, 1), (58, .ireturn, 1), (59, .iinc 2 1, 3), (62, .goto (-45), 3), (65, .iinc 1 1, 3), (68, .goto (-66), 3), (71, .iconst 1, 1), (72, .ireturn, 1)]
def zdl_98 : List (Nat × Instr × Nat) := [(0, .aload_n 0, 1), (1, .getfield 12, 3), (4, .iload_n 2, 1), (5, .invokevirtual 86, 3), (8, .ifCond .eq 14, 3), (11, .aload_n 0, 1), (12, .getfield 12, 3), (15, .iload_n 3, 1), (16, .invokevirtual 63, 3), (19, .ifCond .ne 6, 3), (22, .bipush (-2), 2), (24, .ireturn, 1), (25, .aload_n 0, 1), (26, .iload_n 1, 1), (27, .invokevirtual 82, 3), (30, .astore 5, 2), (32, .aload 5, 2), (34, .instanceof 128, 3), (37, .ifCond .eq 29, 3), (40, .aload 5, 2), (42, .checkcast 128, 3), (45, .astore 4, 2), (47, .aload 4, 2), (49, .iload_n 2, 1), (50, .invokevirtual 130, 3), (53, .ifCond .eq 13, 3), (56, .aload 4, 2), (58, .iload_n 2, 1), (59, .iload_n 3, 1), (60, .invokevirtual 133, 3), (63, .iconst 1, 1), (64, .iadd, 1), (65, .ireturn, 1), (66, .bipush (-2), 2), (68, .ireturn, 1)]
def zdl_99 : List (Nat × Instr × Nat) := [(0, .aload_n 0, 1), (1, .iload_n 1, 1), (2, .invokevirtual 82, 3), (5, .astore 4, 2), (7, .aload 4, 2), (9, .ifnull 13, 3), (12, .iload_n 2, 1), (13, .ifCond .lt 9, 3), (16, .iload_n 2, 1), (17, .bipush 7, 2), (19, .if_icmp .lt 6, 3), (22, .bipush (-2), 2), (24, .ireturn, 1), (25, .iload_n 2, 1), (26, .iconst 4, 1), (27, .if_icmp .ne 12, 3), (30, .aload 4, 2), (32, .iload_n 3, 1), (33, .invokevirtual 113, 3), (36, .goto 10, 3), (39, .aload 4, 2), (41, .iload_n 2, 1), (42, .iload_n 3, 1), (43, .invokevirtual 116, 3), (46, .ireturn, 1)]
def zdl_100 : List (Nat × Instr × Nat) := [(0, .aload_n 0, 1), (1, .getfield 12, 3), (4, .getfield 52, 3), (7, .ifCond .ne 5, 3), (10, .iconst (-1), 1), (11, .ireturn, 1), (12, .aload_n 0, 1), (13, .getfield 12, 3), (16, .invokevirtual 59, 3), (19, .ireturn, 1)]
def zdl_101 : List (Nat × Instr × Nat) := [(0, .iload_n 3, 1), (1, .istore 4, 2), (3, .iconst 0, 1), (4, .istore 5, 2), (6, .iload 5, 2), (8, .iload_n 2, 1), (9, .if_icmp .ge 51, 3), (12, .aload_n 0, 1), (13, .iload_n 1, 1), (14, .iload 5, 2), (16, .iload_n 2, 1), (17, .invokevirtual 90, 3), (20, .aload_n 0, 1), (21, .invokevirtual 147, 3), (24, .istore 6, 2), (26, .aload_n 0, 1), (27, .iload 6, 2), (29, .iload 4, 2), (31, .if_icmp .ne 12, 3), (34, .aload_n 0, 1), (35, .getfield 87, 3), (38, .iconst 1, 1), (39, .isub, 1), (40, .goto 7, 3), (43, .aload_n 0, 1), (44, .getfield 87, 3), (47, .putfield 87, 3), (50, .iload 6, 2), (52, .istore 4, 2), (54, .iinc 5 1, 3), (57, .goto (-51), 3), (60, .iload 4, 2), (62, .ireturn, 1)]
def zdl_102 : List (Nat × Instr × Nat) := [(0, .iconst 1, 1), (1, .aload_n 0, 1), (2, .getfield 74, 3), (5, .ishl, 1), (6, .iconst 1, 1), (7, .isub, 1), (8, .ireturn, 1)]
def zdl_103 : List (Nat × Instr × Nat) := [(0, .aload_n 0, 1), (1, .iload_n 1, 1), (2, .invokevirtual 77, 3), (5, .ifCond .eq 25, 3), (8, .iload_n 2, 1), (9, .iconst 0, 1), (10, .iconst 2, 1), (11, .invokestatic 70, 3), (14, .ifCond .eq 16, 3), (17, .aload_n 0, 1), (18, .getfield 13, 3), (21, .iconst 3, 1), (22, .iload_n 1, 1), (23, .imul, 1), (24, .iload_n 2, 1), (25, .iadd, 1), (26, .iaload, 1), (27, .goto 5, 3), (30, .bipush (-2), 2), (32, .ireturn, 1)]
def zdl_104 : List (Nat × Instr × Nat) := [(0, .aload_n 0, 1), (1, .iload_n 1, 1), (2, .invokevirtual 77, 3), (5, .ifCond .eq 16, 3), (8, .aload_n 0, 1), (9, .iload_n 2, 1), (10, .invokevirtual 77, 3), (13, .ifCond .eq 8, 3), (16, .iload_n 1, 1), (17, .iload_n 2, 1), (18, .if_icmp .ne 6, 3), (21, .bipush (-2), 2), (23, .ireturn, 1), (24, .iload_n 1, 1), (25, .iload_n 2, 1), (26, .if_icmp .ge 7, 3), (29, .iload_n 1, 1), (30, .goto 4, 3), (33, .iload_n 2, 1), (34, .istore_n 3, 1), (35, .iload_n 1, 1), (36, .iload_n 2, 1), (37, .if_icmp .ge 7, 3), (40, .iload_n 2, 1), (41, .goto 4, 3), (44, .iload_n 1, 1), (45, .istore 4, 2), (47, .iconst 0, 1), (48, .istore 5, 2), (50, .iconst 0, 1), (51, .istore 6, 2), (53, .iload 6, 2), (55, .aload_n 0, 1), (56, .getfield 74, 3), (59, .if_icmp .ge 44, 3), (62, .iload 5, 2), (64, .ifCond .ne 26, 3), (67, .aload_n 0, 1), (68, .getfield 17, 3), (71, .iload 6, 2), (73, .iaload, 1), (74, .iload_n 3, 1), (75, .if_icmp .ne 19, 3), (78, .aload_n 0, 1), (79, .getfield 20, 3), (82, .iload 6, 2), (84, .iaload, 1), (85, .iload 4, 2), (87, .if_icmp .ne 7, 3), (90, .iconst 1, 1), (91, .goto 4, 3), (94, .iconst 0, 1), (95, .istore 5, 2), (97, .iinc 6 1, 3), (100, .goto (-47), 3), (103, .iload 5, 2), (105, .ifCond .eq 6, 3), (108, .bipush (-4), 2), (110, .ireturn, 1), (111, .aload_n 0, 1), (112, .getfield 74, 3), (115, .bipush 12, 2), (117, .if_icmp .ne 6, 3), (120, .bipush (-3), 2), (122, .ireturn, 1), (123, .aload_n 0, 1), (124, .getfield 17, 3), (127, .aload_n 0, 1), (128, .getfield 74, 3), (131, .iload_n 3, 1), (132, .iastore, 1), (133, .aload_n 0, 1), (134, .getfield 20, 3), (137, .aload_n 0, 1), (138, .getfield 74, 3), (141, .iload 4, 2), (143, .iastore, 1), (144, .aload_n 0, 1), (145, .getfield 23, 3), (148, .aload_n 0, 1), (149, .getfield 74, 3), (152, .iconst 0, 1), (153, .iastore, 1), (154, .aload_n 0, 1), (155, .dup, 1), (156, .getfield 74, 3), (159, .iconst 1, 1), (160, .iadd, 1), (161, .putfield 74, 3), (164, .aload_n 0, 1), (165, .invokevirtual 67, 3), (168, .aload_n 0, 1), (169, .getfield 74, 3), (172, .iconst 1, 1), (173, .isub, 1), (174, .ireturn, 1)]
def zdl_105 : List (Nat × Instr × Nat) := [(0, .iconst 0, 1), (1, .istore_n 3, 1), (2, .iconst 0, 1), (3, .istore 4, 2), (5, .iload 4, 2), (7, .aload_n 0, 1), (8, .getfield 74, 3), (11, .if_icmp .ge 69, 3), (14, .aload_n 0, 1), (15, .getfield 17, 3), (18, .iload 4, 2), (20, .iaload, 1), (21, .iload_n 1, 1), (22, .if_icmp .ne 18, 3), (25, .iload_n 2, 1), (26, .aload_n 0, 1), (27, .getfield 20, 3), (30, .iload 4, 2), (32, .iaload, 1), (33, .ishr, 1), (34, .iconst 1, 1), (35, .iand, 1), (36, .iconst 1, 1), (37, .if_icmp .eq 29, 3), (40, .aload_n 0, 1), (41, .getfield 20, 3), (44, .iload 4, 2), (46, .iaload, 1), (47, .iload_n 1, 1), (48, .if_icmp .ne 24, 3), (51, .iload_n 2, 1), (52, .aload_n 0, 1), (53, .getfield 17, 3), (56, .iload 4, 2), (58, .iaload, 1), (59, .ishr, 1), (60, .iconst 1, 1), (61, .iand, 1), (62, .iconst 1, 1), (63, .if_icmp .ne 9, 3), (66, .iload_n 3, 1), (67, .iconst 1, 1), (68, .iadd, 1), (69, .goto 4, 3), (72, .iload_n 3, 1), (73, .istore_n 3, 1), (74, .iinc 4 1, 3), (77, .goto (-72), 3), (80, .iload_n 3, 1), (81, .ireturn, 1)]
def zdl_106 : List (Nat × Instr × Nat) := [(0, .iload_n 1, 1), (1, .iconst 1, 1), (2, .bipush 7, 2), (4, .invokestatic 70, 3), (7, .ifCond .ne 6, 3), (10, .bipush (-2), 2), (12, .ireturn, 1), (13, .aload_n 0, 1), (14, .getfield 7, 3), (17, .istore_n 2, 1), (18, .aload_n 0, 1), (19, .iload_n 1, 1), (20, .putfield 7, 3), (23, .aload_n 0, 1), (24, .iconst 0, 1), (25, .putfield 74, 3), (28, .iconst 0, 1), (29, .istore_n 3, 1), (30, .iload_n 3, 1), (31, .bipush 21, 2), (33, .if_icmp .ge 16, 3), (36, .aload_n 0, 1), (37, .getfield 13, 3), (40, .iload_n 3, 1), (41, .iconst 0, 1), (42, .iastore, 1), (43, .iinc 3 1, 3), (46, .goto (-16), 3), (49, .aload_n 0, 1), (50, .invokevirtual 67, 3), (53, .iload_n 2, 1), (54, .ireturn, 1)]
def zdl_107 : List (Nat × Instr × Nat) := [(0, .iconst 0, 1), (1, .istore_n 2, 1), (2, .iload_n 2, 1), (3, .aload_n 0, 1), (4, .getfield 7, 3), (7, .if_icmp .ge 16, 3), (10, .aload_n 0, 1), (11, .getfield 64, 3), (14, .iload_n 2, 1), (15, .iload_n 2, 1), (16, .iastore, 1), (17, .iinc 2 1, 3), (20, .goto (-18), 3), (23, .aload_n 0, 1), (24, .invokevirtual 238, 3), (27, .istore_n 2, 1), (28, .iconst 1, 1), (29, .istore_n 3, 1), (30, .iload_n 2, 1), (31, .ifCond .ne 32, 3), (34, .iload_n 3, 1), (35, .ifCond .eq 28, 3), (38, .aload_n 0, 1), (39, .invokevirtual 241, 3), (42, .istore_n 3, 1), (43, .iload_n 3, 1), (44, .ifCond .eq 14, 3), (47, .aload_n 0, 1), (48, .invokevirtual 238, 3), (51, .ifCond .eq 7, 3), (54, .iconst 1, 1), (55, .goto 4, 3), (58, .iconst 0, 1), (59, .istore_n 2, 1), (60, .goto (-30), 3), (63, .iload_n 2, 1), (64, .ifCond .eq 26, 3), (67, .iload_n 1, 1), (68, .iconst 0, 1), (69, .aload_n 0, 1), (70, .getfield 7, 3), (73, .iconst 1, 1), (74, .isub, 1), (75, .invokestatic 70, 3), (78, .ifCond .eq 12, 3), (81, .aload_n 0, 1), (82, .getfield 64, 3), (85, .iload_n 1, 1), (86, .iaload, 1), (87, .goto 4, 3), (90, .iconst (-1), 1), (91, .ireturn, 1)]
def zdl_108 : List (Nat × Instr × Nat) := [(0, .aload_n 0, 1), (1, .getfield 29, 3), (4, .iconst 0, 1), (5, .iconst 0, 1), (6, .bastore, 1), (7, .aload_n 0, 1), (8, .getfield 29, 3), (11, .iconst 1, 1), (12, .iconst 0, 1), (13, .bastore, 1), (14, .aload_n 0, 1), (15, .getfield 29, 3), (18, .iconst 2, 1), (19, .iconst 0, 1), (20, .bastore, 1), (21, .return_, 1)]
def zdl_109 : List (Nat × Instr × Nat) := [(0, .iconst 1, 1), (1, .istore_n 2, 1), (2, .iconst 0, 1), (3, .istore_n 3, 1), (4, .iload_n 3, 1), (5, .iload_n 1, 1), (6, .if_icmp .ge 19, 3), (9, .iload_n 2, 1), (10, .iload_n 0, 1), (11, .iload_n 3, 1), (12, .isub, 1), (13, .imul, 1), (14, .iload_n 3, 1), (15, .iconst 1, 1), (16, .iadd, 1), (17, .idiv, 1), (18, .istore_n 2, 1), (19, .iinc 3 1, 3), (22, .goto (-18), 3), (25, .iload_n 2, 1), (26, .ireturn, 1)]
def zdl_110 : List (Nat × Instr × Nat) := [(0, .aload_n 0, 1), (1, .getfield 37, 3), (4, .bipush 15, 2), (6, .iload_n 1, 1), (7, .imul, 1), (8, .iload_n 2, 1), (9, .iadd, 1), (10, .laload, 1), (11, .lload_n 3, 1), (12, .invokestatic 112, 3), (15, .lstore 5, 2), (17, .iload_n 1, 1), (18, .iconst 1, 1), (19, .iadd, 1), (20, .istore 7, 2), (22, .iload 7, 2), (24, .aload_n 0, 1), (25, .getfield 87, 3), (28, .if_icmp .ge 101, 3), (31, .aload_n 0, 1), (32, .getfield 37, 3), (35, .bipush 15, 2), (37, .iload 7, 2), (39, .imul, 1), (40, .iload_n 2, 1), (41, .iadd, 1), (42, .laload, 1), (43, .lload 5, 2), (45, .lmul, 1), (46, .lload_n 3, 1), (47, .lrem, 1), (48, .lstore 8, 2), (50, .iload_n 2, 1), (51, .istore 10, 2), (53, .iload 10, 2), (55, .aload_n 0, 1), (56, .getfield 84, 3), (59, .if_icmp .ge 64, 3), (62, .lload 8, 2), (64, .lconst 0, 1), (65, .lcmp, 1), (66, .ifCond .eq 57, 3), (69, .aload_n 0, 1), (70, .getfield 37, 3), (73, .bipush 15, 2), (75, .iload 7, 2), (77, .imul, 1), (78, .iload 10, 2), (80, .iadd, 1), (81, .aload_n 0, 1), (82, .getfield 37, 3), (85, .bipush 15, 2), (87, .iload 7, 2), (89, .imul, 1), (90, .iload 10, 2), (92, .iadd, 1), (93, .laload, 1), (94, .lload 8, 2), (96, .aload_n 0, 1), (97, .getfield 37, 3), (100, .bipush 15, 2), (102, .iload_n 1, 1), (103, .imul, 1), (104, .iload 10, 2), (106, .iadd, 1), (107, .laload, 1), (108, .lmul, 1), (109, .lload_n 3, 1), (110, .lrem, 1), (111, .lsub, 1), (112, .lload_n 3, 1), (113, .invokestatic 96, 3), (116, .lastore, 1), (117, .iinc 10 1, 3), (120, .goto (-67), 3), (123, .iinc 7 1, 3), (126, .goto (-104), 3), (129, .return_, 1)]
def zdl_111 : List (Nat × Instr × Nat) := [(0, .aload_n 0, 1), (1, .iload_n 1, 1), (2, .invokevirtual 158, 3), (5, .ifCond .eq 20, 3), (8, .aload_n 0, 1), (9, .iload_n 2, 1), (10, .invokevirtual 161, 3), (13, .ifCond .eq 12, 3), (16, .aload_n 0, 1), (17, .iload_n 1, 1), (18, .iload_n 2, 1), (19, .invokevirtual 167, 3), (22, .goto 5, 3), (25, .bipush (-2), 2), (27, .ireturn, 1)]
def zdl_112 : List (Nat × Instr × Nat) := [(0, .iload_n 2, 1), (1, .istore_n 3, 1), (2, .iconst 0, 1), (3, .istore 4, 2), (5, .iload 4, 2), (7, .aload_n 0, 1), (8, .getfield 74, 3), (11, .if_icmp .ge 40, 3), (14, .aload_n 0, 1), (15, .iload_n 1, 1), (16, .iload_n 2, 1), (17, .iconst 1, 1), (18, .iload 4, 2), (20, .ishl, 1), (21, .ior, 1), (22, .invokevirtual 164, 3), (25, .aload_n 0, 1), (26, .iload_n 1, 1), (27, .iload_n 2, 1), (28, .invokevirtual 164, 3), (31, .if_icmp .ne 12, 3), (34, .iload_n 3, 1), (35, .iconst 1, 1), (36, .iload 4, 2), (38, .ishl, 1), (39, .ior, 1), (40, .goto 4, 3), (43, .iload_n 3, 1), (44, .istore_n 3, 1), (45, .iinc 4 1, 3), (48, .goto (-43), 3), (51, .iload_n 3, 1), (52, .ireturn, 1)]
def zdl_113 : List (Nat × Instr × Nat) := [(0, .aload_n 0, 1), (1, .iload_n 1, 1), (2, .invokevirtual 158, 3), (5, .ifCond .ne 6, 3), (8, .bipush (-2), 2), (10, .ireturn, 1), (11, .iconst 0, 1), (12, .istore_n 3, 1), (13, .iload_n 3, 1), (14, .aload_n 0, 1), (15, .getfield 7, 3), (18, .if_icmp .ge 48, 3), (21, .iconst 0, 1), (22, .istore 4, 2), (24, .iload 4, 2), (26, .iload_n 3, 1), (27, .if_icmp .ge 33, 3), (30, .aload_n 0, 1), (31, .getfield 52, 3), (34, .bipush 7, 2), (36, .iload 4, 2), (38, .imul, 1), (39, .iload_n 3, 1), (40, .iadd, 1), (41, .aload_n 0, 1), (42, .iload_n 1, 1), (43, .iload 4, 2), (45, .iload_n 3, 1), (46, .aload_n 0, 1), (47, .invokevirtual 151, 3), (50, .invokevirtual 174, 3), (53, .bastore, 1), (54, .iinc 4 1, 3), (57, .goto (-33), 3), (60, .iinc 3 1, 3), (63, .goto (-50), 3), (66, .iconst 0, 1), (67, .istore_n 3, 1), (68, .iconst (-1), 1), (69, .istore 4, 2), (71, .iconst 0, 1), (72, .istore 5, 2), (74, .iload 5, 2), (76, .iconst 1, 1), (77, .aload_n 0, 1), (78, .getfield 7, 3), (81, .ishl, 1), (82, .if_icmp .ge 111, 3), (85, .iload 5, 2), (87, .invokestatic 126, 3), (90, .iconst 1, 1), (91, .if_icmp .le 16, 3), (94, .aload_n 0, 1), (95, .iload 5, 2), (97, .invokevirtual 215, 3), (100, .ifCond .eq 7, 3), (103, .iconst 1, 1), (104, .goto 4, 3), (107, .iconst 0, 1), (108, .istore 6, 2), (110, .iconst 0, 1), (111, .istore 7, 2), (113, .iload 7, 2), (115, .aload_n 0, 1), (116, .getfield 7, 3), (119, .if_icmp .ge 46, 3), (122, .iload 6, 2), (124, .ifCond .eq 41, 3), (127, .iload 5, 2), (129, .iload 7, 2), (131, .ishr, 1), (132, .iconst 1, 1), (133, .iand, 1), (134, .iconst 1, 1), (135, .if_icmp .eq 17, 3), (138, .aload_n 0, 1), (139, .iload 5, 2), (141, .iconst 1, 1), (142, .iload 7, 2), (144, .ishl, 1), (145, .ior, 1), (146, .invokevirtual 215, 3), (149, .ifCond .ne 7, 3), (152, .iconst 1, 1), (153, .goto 4, 3), (156, .iconst 0, 1), (157, .istore 6, 2), (159, .iinc 7 1, 3), (162, .goto (-49), 3), (165, .iload 6, 2), (167, .ifCond .eq 20, 3), (170, .iload_n 3, 1), (171, .iload_n 2, 1), (172, .if_icmp .ne 8, 3), (175, .iload 5, 2), (177, .goto 5, 3), (180, .iload 4, 2), (182, .istore 4, 2), (184, .iinc 3 1, 3), (187, .iinc 5 1, 3), (190, .goto (-116), 3), (193, .iload 4, 2), (195, .ireturn, 1)]
def zdl_114 : List (Nat × Instr × Nat) := [(0, .aload_n 0, 1), (1, .iload_n 1, 1), (2, .invokevirtual 158, 3), (5, .ifCond .ne 6, 3), (8, .bipush (-2), 2), (10, .ireturn, 1), (11, .iload_n 2, 1), (12, .ifCond .lt 7, 3), (15, .iload_n 3, 1), (16, .ifCond .ge 5, 3), (19, .iconst 0, 1), (20, .ireturn, 1), (21, .iconst 0, 1), (22, .istore 4, 2), (24, .iconst 0, 1), (25, .istore 5, 2), (27, .iload 5, 2), (29, .aload_n 0, 1), (30, .invokevirtual 151, 3), (33, .if_icmp .gt 53, 3), (36, .iload 4, 2), (38, .aload_n 0, 1), (39, .iload_n 1, 1), (40, .aload_n 0, 1), (41, .invokevirtual 151, 3), (44, .invokevirtual 164, 3), (47, .aload_n 0, 1), (48, .iload_n 1, 1), (49, .iload 5, 2), (51, .invokevirtual 164, 3), (54, .isub, 1), (55, .iload_n 2, 1), (56, .invokestatic 212, 3), (59, .iload 5, 2), (61, .invokestatic 126, 3), (64, .aload_n 0, 1), (65, .iload_n 1, 1), (66, .iload 5, 2), (68, .invokevirtual 164, 3), (71, .isub, 1), (72, .iload_n 3, 1), (73, .invokestatic 212, 3), (76, .imul, 1), (77, .iadd, 1), (78, .istore 4, 2), (80, .iinc 5 1, 3), (83, .goto (-56), 3), (86, .iload 4, 2), (88, .ireturn, 1)]
def zdl_115 : List (Nat × Instr × Nat) := [(0, .iload_n 1, 1), (1, .iconst 0, 1), (2, .iconst 3, 1), (3, .invokestatic 70, 3), (6, .ifCond .ne 6, 3), (9, .bipush (-2), 2), (11, .ireturn, 1), (12, .iconst 0, 1), (13, .istore_n 2, 1), (14, .iconst 0, 1), (15, .istore_n 3, 1), (16, .iload_n 3, 1), (17, .aload_n 0, 1), (18, .getfield 74, 3), (21, .if_icmp .ge 38, 3), (24, .aload_n 0, 1), (25, .getfield 23, 3), (28, .iload_n 3, 1), (29, .iaload, 1), (30, .iload_n 1, 1), (31, .iconst 2, 1), (32, .if_icmp .ne 7, 3), (35, .iconst 1, 1), (36, .goto 4, 3), (39, .iconst (-1), 1), (40, .if_icmp .ne 11, 3), (43, .iload_n 2, 1), (44, .iconst 1, 1), (45, .iload_n 3, 1), (46, .ishl, 1), (47, .ior, 1), (48, .goto 4, 3), (51, .iload_n 2, 1), (52, .istore_n 2, 1), (53, .iinc 3 1, 3), (56, .goto (-40), 3), (59, .iload_n 1, 1), (60, .ifCond .ne 10, 3), (63, .aload_n 0, 1), (64, .getfield 7, 3), (67, .goto 16, 3), (70, .iload_n 1, 1), (71, .iconst 1, 1), (72, .if_icmp .ne 10, 3), (75, .aload_n 0, 1), (76, .getfield 74, 3), (79, .goto 4, 3), (82, .iload_n 2, 1), (83, .ireturn, 1)]
def zdl_116 : List (Nat × Instr × Nat) := [(0, .aload_n 0, 1), (1, .iconst 0, 1), (2, .putfield 123, 3), (5, .iconst 0, 1), (6, .istore_n 2, 1), (7, .iload_n 2, 1), (8, .aload_n 0, 1), (9, .getfield 74, 3), (12, .if_icmp .ge 34, 3), (15, .iload_n 1, 1), (16, .iload_n 2, 1), (17, .ishr, 1), (18, .iconst 1, 1), (19, .iand, 1), (20, .iconst 1, 1), (21, .if_icmp .ne 19, 3), (24, .aload_n 0, 1), (25, .aload_n 0, 1), (26, .getfield 17, 3), (29, .iload_n 2, 1), (30, .iaload, 1), (31, .aload_n 0, 1), (32, .getfield 20, 3), (35, .iload_n 2, 1), (36, .iaload, 1), (37, .invokevirtual 130, 3), (40, .iinc 2 1, 3), (43, .goto (-36), 3), (46, .aload_n 0, 1), (47, .invokevirtual 133, 3), (50, .ifCond .eq 8, 3), (53, .aload_n 0, 1), (54, .getfield 123, 3), (57, .ireturn, 1), (58, .iconst 0, 1), (59, .istore_n 2, 1), (60, .iconst 0, 1), (61, .istore_n 3, 1), (62, .iload_n 3, 1), (63, .aload_n 0, 1), (64, .getfield 74, 3), (67, .if_icmp .ge 53, 3), (70, .iload_n 1, 1), (71, .iload_n 3, 1), (72, .ishr, 1), (73, .iconst 1, 1), (74, .iand, 1), (75, .iconst 1, 1), (76, .if_icmp .ne 22, 3), (79, .aload_n 0, 1), (80, .getfield 26, 3), (83, .sipush 8192, 3), (86, .iload_n 1, 1), (87, .iconst 1, 1), (88, .iload_n 3, 1), (89, .ishl, 1), (90, .iconst (-1), 1), (91, .ixor, 1), (92, .iand, 1), (93, .iadd, 1), (94, .iaload, 1), (95, .goto 4, 3), (98, .iconst 0, 1), (99, .istore 4, 2), (101, .iload 4, 2), (103, .iload_n 2, 1), (104, .if_icmp .le 8, 3), (107, .iload 4, 2), (109, .goto 4, 3), (112, .iload_n 2, 1), (113, .istore_n 2, 1), (114, .iinc 3 1, 3), (117, .goto (-55), 3), (120, .iload_n 2, 1), (121, .ireturn, 1)]
def zdb_3 : List (ByteArray × List (Nat × Instr × Nat)) := [(cX6_rank, zdl_93), (cX6_rigid, zdl_94), (cX6_sign, zdl_95), (cX6_spare, zdl_96), (cX6_staysTogether, zdl_97), (cX6_stressed, zdl_98), (cX6_told, zdl_99), (cX6_unbar, zdl_100), (cX7_addPairs, zdl_101), (cX7_all, zdl_102), (cX7_at, zdl_103), (cX7_bar, zdl_104), (cX7_barsBetween, zdl_105), (cX7_begin, zdl_106), (cX7_built, zdl_107), (cX7_change, zdl_108), (cX7_choose, zdl_109), (cX7_clearBelow, zdl_110), (cX7_closure, zdl_111), (cX7_closureOf, zdl_112), (cX7_cluster, zdl_113), (cX7_coefficient, zdl_114), (cX7_count, zdl_115), (cX7_countedRank, zdl_116)]
set_option maxRecDepth 100000 in
theorem zdo_93 : zdl_93.all (fun e => decide (decode cX6_rank e.1 = .ok e.2)) = true := by decide +kernel
set_option maxRecDepth 100000 in
theorem zdo_94 : zdl_94.all (fun e => decide (decode cX6_rigid e.1 = .ok e.2)) = true := by decide +kernel
set_option maxRecDepth 100000 in
theorem zdo_95 : zdl_95.all (fun e => decide (decode cX6_sign e.1 = .ok e.2)) = true := by decide +kernel
set_option maxRecDepth 100000 in
theorem zdo_96 : zdl_96.all (fun e => decide (decode cX6_spare e.1 = .ok e.2)) = true := by decide +kernel
set_option maxRecDepth 100000 in
theorem zdo_97 : zdl_97.all (fun e => decide (decode cX6_staysTogether e.1 = .ok e.2)) = true := by decide +kernel
set_option maxRecDepth 100000 in
theorem zdo_98 : zdl_98.all (fun e => decide (decode cX6_stressed e.1 = .ok e.2)) = true := by decide +kernel
set_option maxRecDepth 100000 in
theorem zdo_99 : zdl_99.all (fun e => decide (decode cX6_told e.1 = .ok e.2)) = true := by decide +kernel
set_option maxRecDepth 100000 in
theorem zdo_100 : zdl_100.all (fun e => decide (decode cX6_unbar e.1 = .ok e.2)) = true := by decide +kernel
set_option maxRecDepth 100000 in
theorem zdo_101 : zdl_101.all (fun e => decide (decode cX7_addPairs e.1 = .ok e.2)) = true := by decide +kernel
set_option maxRecDepth 100000 in
theorem zdo_102 : zdl_102.all (fun e => decide (decode cX7_all e.1 = .ok e.2)) = true := by decide +kernel
set_option maxRecDepth 100000 in
theorem zdo_103 : zdl_103.all (fun e => decide (decode cX7_at e.1 = .ok e.2)) = true := by decide +kernel
set_option maxRecDepth 100000 in
theorem zdo_104 : zdl_104.all (fun e => decide (decode cX7_bar e.1 = .ok e.2)) = true := by decide +kernel
set_option maxRecDepth 100000 in
theorem zdo_105 : zdl_105.all (fun e => decide (decode cX7_barsBetween e.1 = .ok e.2)) = true := by decide +kernel
set_option maxRecDepth 100000 in
theorem zdo_106 : zdl_106.all (fun e => decide (decode cX7_begin e.1 = .ok e.2)) = true := by decide +kernel
set_option maxRecDepth 100000 in
theorem zdo_107 : zdl_107.all (fun e => decide (decode cX7_built e.1 = .ok e.2)) = true := by decide +kernel
set_option maxRecDepth 100000 in
theorem zdo_108 : zdl_108.all (fun e => decide (decode cX7_change e.1 = .ok e.2)) = true := by decide +kernel
set_option maxRecDepth 100000 in
theorem zdo_109 : zdl_109.all (fun e => decide (decode cX7_choose e.1 = .ok e.2)) = true := by decide +kernel
set_option maxRecDepth 100000 in
theorem zdo_110 : zdl_110.all (fun e => decide (decode cX7_clearBelow e.1 = .ok e.2)) = true := by decide +kernel
set_option maxRecDepth 100000 in
theorem zdo_111 : zdl_111.all (fun e => decide (decode cX7_closure e.1 = .ok e.2)) = true := by decide +kernel
set_option maxRecDepth 100000 in
theorem zdo_112 : zdl_112.all (fun e => decide (decode cX7_closureOf e.1 = .ok e.2)) = true := by decide +kernel
set_option maxRecDepth 100000 in
theorem zdo_113 : zdl_113.all (fun e => decide (decode cX7_cluster e.1 = .ok e.2)) = true := by decide +kernel
set_option maxRecDepth 100000 in
theorem zdo_114 : zdl_114.all (fun e => decide (decode cX7_coefficient e.1 = .ok e.2)) = true := by decide +kernel
set_option maxRecDepth 100000 in
theorem zdo_115 : zdl_115.all (fun e => decide (decode cX7_count e.1 = .ok e.2)) = true := by decide +kernel
set_option maxRecDepth 100000 in
theorem zdo_116 : zdl_116.all (fun e => decide (decode cX7_countedRank e.1 = .ok e.2)) = true := by decide +kernel
theorem zdk_3 : ∀ q ∈ zdb_3, q.2.all (fun e => decide (decode q.1 e.1 = .ok e.2)) = true := by
  intro q hq
  simp only [zdb_3, List.mem_cons, List.not_mem_nil, or_false] at hq
  rcases hq with rfl | rfl | rfl | rfl | rfl | rfl | rfl | rfl | rfl | rfl | rfl | rfl | rfl | rfl | rfl | rfl | rfl | rfl | rfl | rfl | rfl | rfl | rfl | rfl
  · exact zdo_93
  · exact zdo_94
  · exact zdo_95
  · exact zdo_96
  · exact zdo_97
  · exact zdo_98
  · exact zdo_99
  · exact zdo_100
  · exact zdo_101
  · exact zdo_102
  · exact zdo_103
  · exact zdo_104
  · exact zdo_105
  · exact zdo_106
  · exact zdo_107
  · exact zdo_108
  · exact zdo_109
  · exact zdo_110
  · exact zdo_111
  · exact zdo_112
  · exact zdo_113
  · exact zdo_114
  · exact zdo_115
  · exact zdo_116
end
section
def zdl_117 : List (Nat × Instr × Nat) := [(0, .iload_n 1, 1), (1, .iconst 0, 1), (2, .aload_n 0, 1), (3, .getfield 74, 3), (6, .iconst 1, 1), (7, .isub, 1), (8, .invokestatic 70, 3), (11, .ifCond .eq 12, 3), (14, .iload_n 2, 1), (15, .iconst 0, 1), (16, .iconst 1, 1), (17, .invokestatic 70, 3), (20, .ifCond .ne 6, 3), (23, .bipush (-2), 2), (25, .ireturn, 1), (26, .iload_n 2, 1), (27, .ifCond .ne 12, 3), (30, .aload_n 0, 1), (31, .getfield 17, 3), (34, .iload_n 1, 1), (35, .iaload, 1), (36, .goto 9, 3), (39, .aload_n 0, 1), (40, .getfield 20, 3), (43, .iload_n 1, 1), (44, .iaload, 1), (45, .ireturn, 1)]
def zdl_118 : List (Nat × Instr × Nat) := [(0, .aload_n 0, 1), (1, .iload_n 1, 1), (2, .iload_n 2, 1), (3, .invokevirtual 144, 3), (6, .aload_n 0, 1), (7, .invokevirtual 147, 3), (10, .ireturn, 1)]
def zdl_119 : List (Nat × Instr × Nat) := [(0, .iconst 0, 1), (1, .istore_n 2, 1), (2, .iload_n 2, 1), (3, .aload_n 0, 1), (4, .getfield 74, 3), (7, .if_icmp .ge 18, 3), (10, .aload_n 0, 1), (11, .getfield 49, 3), (14, .iload_n 2, 1), (15, .iconst 1, 1), (16, .iload_n 2, 1), (17, .ishl, 1), (18, .iastore, 1), (19, .iinc 2 1, 3), (22, .goto (-20), 3), (25, .iconst 0, 1), (26, .istore_n 2, 1), (27, .iload_n 2, 1), (28, .aload_n 0, 1), (29, .invokevirtual 151, 3), (32, .if_icmp .gt 66, 3), (35, .aload_n 0, 1), (36, .iload_n 1, 1), (37, .iload_n 2, 1), (38, .invokevirtual 191, 3), (41, .ifCond .eq 51, 3), (44, .iconst 0, 1), (45, .istore_n 3, 1), (46, .iload_n 3, 1), (47, .aload_n 0, 1), (48, .getfield 74, 3), (51, .if_icmp .ge 41, 3), (54, .aload_n 0, 1), (55, .getfield 49, 3), (58, .iload_n 3, 1), (59, .iload_n 2, 1), (60, .iload_n 3, 1), (61, .ishr, 1), (62, .iconst 1, 1), (63, .iand, 1), (64, .iconst 1, 1), (65, .if_icmp .ne 14, 3), (68, .aload_n 0, 1), (69, .getfield 49, 3), (72, .iload_n 3, 1), (73, .iaload, 1), (74, .iload_n 2, 1), (75, .ior, 1), (76, .goto 9, 3), (79, .aload_n 0, 1), (80, .getfield 49, 3), (83, .iload_n 3, 1), (84, .iaload, 1), (85, .iastore, 1), (86, .iinc 3 1, 3), (89, .goto (-43), 3), (92, .iinc 2 1, 3), (95, .goto (-68), 3), (98, .return_, 1)]
def zdl_120 : List (Nat × Instr × Nat) := [(0, .aload_n 0, 1), (1, .iload_n 1, 1), (2, .iload_n 2, 1), (3, .invokevirtual 144, 3), (6, .aload_n 0, 1), (7, .getfield 87, 3), (10, .iconst 1, 1), (11, .isub, 1), (12, .istore_n 3, 1), (13, .aload_n 0, 1), (14, .ldc2_w 115, 3), (17, .invokevirtual 117, 3), (20, .istore 4, 2), (22, .iload 4, 2), (24, .iload_n 3, 1), (25, .if_icmp .ge 12, 3), (28, .aload_n 0, 1), (29, .ldc2_w 121, 3), (32, .invokevirtual 117, 3), (35, .istore 4, 2), (37, .iconst 0, 1), (38, .istore 5, 2), (40, .iload 5, 2), (42, .iload 4, 2), (44, .if_icmp .ge 23, 3), (47, .aload_n 0, 1), (48, .getfield 58, 3), (51, .iload 5, 2), (53, .aload_n 0, 1), (54, .getfield 40, 3), (57, .iload 5, 2), (59, .iaload, 1), (60, .iastore, 1), (61, .iinc 5 1, 3), (64, .goto (-24), 3), (67, .iconst 0, 1), (68, .istore 5, 2), (70, .iconst 0, 1), (71, .istore 6, 2), (73, .iconst 0, 1), (74, .istore 7, 2), (76, .iload 7, 2), (78, .aload_n 0, 1), (79, .getfield 74, 3), (82, .if_icmp .ge 134, 3), (85, .aload_n 0, 1), (86, .getfield 55, 3), (89, .iload 7, 2), (91, .lconst 0, 1), (92, .lastore, 1), (93, .iload_n 2, 1), (94, .iload 7, 2), (96, .ishr, 1), (97, .iconst 1, 1), (98, .iand, 1), (99, .iconst 1, 1), (100, .if_icmp .ne 110, 3), (103, .aload_n 0, 1), (104, .iload_n 1, 1), (105, .iload_n 2, 1), (106, .iload 7, 2), (108, .ldc2_w 115, 3), (111, .invokevirtual 220, 3), (114, .aload_n 0, 1), (115, .iload_n 1, 1), (116, .iload_n 2, 1), (117, .iload 7, 2), (119, .ldc2_w 121, 3), (122, .invokevirtual 220, 3), (125, .invokestatic 224, 3), (128, .lstore 8, 2), (130, .iload 5, 2), (132, .iconst 2, 1), (133, .irem, 1), (134, .ifCond .ne 8, 3), (137, .lload 8, 2), (139, .goto 6, 3), (142, .lload 8, 2), (144, .lneg, 1), (145, .lstore 8, 2), (147, .iload 5, 2), (149, .ifCond .ne 18, 3), (152, .lload 8, 2), (154, .lconst 0, 1), (155, .lcmp, 1), (156, .ifCond .ge 7, 3), (159, .iconst (-1), 1), (160, .goto 9, 3), (163, .iconst 1, 1), (164, .goto 5, 3), (167, .iload 6, 2), (169, .istore 6, 2), (171, .aload_n 0, 1), (172, .getfield 55, 3), (175, .iload 7, 2), (177, .iload 6, 2), (179, .i2l, 1), (180, .lload 8, 2), (182, .lconst 0, 1), (183, .lcmp, 1), (184, .ifCond .le 7, 3), (187, .lconst 1, 1), (188, .goto 17, 3), (191, .lload 8, 2), (193, .lconst 0, 1), (194, .lcmp, 1), (195, .ifCond .ge 9, 3), (198, .ldc2_w 227, 3), (201, .goto 4, 3), (204, .lconst 0, 1), (205, .lmul, 1), (206, .lastore, 1), (207, .iinc 5 1, 3), (210, .iinc 7 1, 3), (213, .goto (-137), 3), (216, .return_, 1)]
def zdl_121 : List (Nat × Instr × Nat) := [(0, .iload_n 1, 1), (1, .iload_n 1, 1), (2, .ineg, 1), (3, .iand, 1), (4, .istore_n 2, 1), (5, .iconst 0, 1), (6, .istore_n 3, 1), (7, .iload_n 3, 1), (8, .aload_n 0, 1), (9, .getfield 7, 3), (12, .if_icmp .ge 73, 3), (15, .iconst 0, 1), (16, .istore 4, 2), (18, .iload 4, 2), (20, .aload_n 0, 1), (21, .getfield 74, 3), (24, .if_icmp .ge 55, 3), (27, .iconst 1, 1), (28, .aload_n 0, 1), (29, .getfield 17, 3), (32, .iload 4, 2), (34, .iaload, 1), (35, .ishl, 1), (36, .iconst 1, 1), (37, .aload_n 0, 1), (38, .getfield 20, 3), (41, .iload 4, 2), (43, .iaload, 1), (44, .ishl, 1), (45, .ior, 1), (46, .istore 5, 2), (48, .iload 5, 2), (50, .iload_n 1, 1), (51, .iconst (-1), 1), (52, .ixor, 1), (53, .iand, 1), (54, .ifCond .ne 17, 3), (57, .iload_n 2, 1), (58, .iload 5, 2), (60, .iand, 1), (61, .ifCond .eq 10, 3), (64, .iload_n 2, 1), (65, .iload 5, 2), (67, .ior, 1), (68, .goto 4, 3), (71, .iload_n 2, 1), (72, .istore_n 2, 1), (73, .iinc 4 1, 3), (76, .goto (-58), 3), (79, .iinc 3 1, 3), (82, .goto (-75), 3), (85, .iload_n 2, 1), (86, .iload_n 1, 1), (87, .if_icmp .ne 7, 3), (90, .iconst 1, 1), (91, .goto 4, 3), (94, .iconst 0, 1), (95, .ireturn, 1)]
def zdl_122 : List (Nat × Instr × Nat) := [(0, .iconst 0, 1), (1, .istore_n 2, 1), (2, .iconst 1, 1), (3, .istore_n 3, 1), (4, .iconst 0, 1), (5, .istore 4, 2), (7, .iload 4, 2), (9, .aload_n 0, 1), (10, .getfield 74, 3), (13, .if_icmp .ge 97, 3), (16, .iload_n 1, 1), (17, .i2l, 1), (18, .aload_n 0, 1), (19, .getfield 55, 3), (22, .iload 4, 2), (24, .laload, 1), (25, .lmul, 1), (26, .lstore 5, 2), (28, .iload_n 3, 1), (29, .ifCond .eq 38, 3), (32, .aload_n 0, 1), (33, .getfield 23, 3), (36, .iload 4, 2), (38, .iaload, 1), (39, .ifCond .eq 24, 3), (42, .lload 5, 2), (44, .lconst 0, 1), (45, .lcmp, 1), (46, .ifCond .eq 17, 3), (49, .lload 5, 2), (51, .aload_n 0, 1), (52, .getfield 23, 3), (55, .iload 4, 2), (57, .iaload, 1), (58, .i2l, 1), (59, .lcmp, 1), (60, .ifCond .ne 7, 3), (63, .iconst 1, 1), (64, .goto 4, 3), (67, .iconst 0, 1), (68, .istore_n 3, 1), (69, .aload_n 0, 1), (70, .getfield 23, 3), (73, .iload 4, 2), (75, .iaload, 1), (76, .ifCond .eq 26, 3), (79, .lload 5, 2), (81, .aload_n 0, 1), (82, .getfield 23, 3), (85, .iload 4, 2), (87, .iaload, 1), (88, .i2l, 1), (89, .lcmp, 1), (90, .ifCond .ne 12, 3), (93, .iload_n 2, 1), (94, .iconst 1, 1), (95, .iload 4, 2), (97, .ishl, 1), (98, .ior, 1), (99, .goto 4, 3), (102, .iload_n 2, 1), (103, .istore_n 2, 1), (104, .iinc 4 1, 3), (107, .goto (-100), 3), (110, .iload_n 3, 1), (111, .ifCond .eq 7, 3), (114, .iload_n 2, 1), (115, .goto 4, 3), (118, .iconst 0, 1), (119, .ireturn, 1)]
def zdl_123 : List (Nat × Instr × Nat) := [(0, .aload_n 0, 1), (1, .iload_n 1, 1), (2, .invokevirtual 158, 3), (5, .ifCond .eq 8, 3), (8, .iload_n 1, 1), (9, .iconst 2, 1), (10, .if_icmp .ne 6, 3), (13, .bipush (-2), 2), (15, .ireturn, 1), (16, .aload_n 0, 1), (17, .iload_n 1, 1), (18, .invokevirtual 178, 3), (21, .ifCond .ne 5, 3), (24, .iconst 0, 1), (25, .ireturn, 1), (26, .iconst 0, 1), (27, .istore_n 2, 1), (28, .iconst 0, 1), (29, .istore_n 3, 1), (30, .iload_n 3, 1), (31, .aload_n 0, 1), (32, .getfield 74, 3), (35, .if_icmp .ge 28, 3), (38, .aload_n 0, 1), (39, .getfield 23, 3), (42, .iload_n 3, 1), (43, .iaload, 1), (44, .ifCond .eq 11, 3), (47, .iload_n 2, 1), (48, .iconst 1, 1), (49, .iload_n 3, 1), (50, .ishl, 1), (51, .ior, 1), (52, .goto 4, 3), (55, .iload_n 2, 1), (56, .istore_n 2, 1), (57, .iinc 3 1, 3), (60, .goto (-30), 3), (63, .iconst 0, 1), (64, .istore_n 3, 1), (65, .iconst 1, 1), (66, .istore 4, 2), (68, .iload 4, 2), (70, .aload_n 0, 1), (71, .invokevirtual 151, 3), (74, .if_icmp .gt 45, 3), (77, .iload_n 3, 1), (78, .iload_n 2, 1), (79, .if_icmp .eq 40, 3), (82, .aload_n 0, 1), (83, .iload_n 1, 1), (84, .iload 4, 2), (86, .invokevirtual 191, 3), (89, .ifCond .eq 24, 3), (92, .aload_n 0, 1), (93, .iload_n 1, 1), (94, .iload 4, 2), (96, .invokevirtual 229, 3), (99, .iload_n 3, 1), (100, .aload_n 0, 1), (101, .iconst 1, 1), (102, .invokevirtual 232, 3), (105, .ior, 1), (106, .aload_n 0, 1), (107, .iconst (-1), 1), (108, .invokevirtual 232, 3), (111, .ior, 1), (112, .istore_n 3, 1), (113, .iinc 4 1, 3), (116, .goto (-48), 3), (119, .iload_n 3, 1), (120, .iload_n 2, 1), (121, .if_icmp .ne 7, 3), (124, .iconst 1, 1), (125, .goto 4, 3), (128, .iconst 0, 1), (129, .ireturn, 1)]
def zdl_124 : List (Nat × Instr × Nat) := [(0, .aload_n 0, 1), (1, .iload_n 1, 1), (2, .invokevirtual 158, 3), (5, .ifCond .eq 33, 3), (8, .aload_n 0, 1), (9, .iload_n 2, 1), (10, .invokevirtual 77, 3), (13, .ifCond .eq 25, 3), (16, .aload_n 0, 1), (17, .iload_n 3, 1), (18, .invokevirtual 77, 3), (21, .ifCond .eq 17, 3), (24, .iload_n 2, 1), (25, .iload_n 3, 1), (26, .if_icmp .eq 12, 3), (29, .aload_n 0, 1), (30, .iload 4, 2), (32, .invokevirtual 161, 3), (35, .ifCond .ne 6, 3), (38, .bipush (-2), 2), (40, .ireturn, 1), (41, .aload_n 0, 1), (42, .iload_n 1, 1), (43, .iload_n 2, 1), (44, .iload_n 3, 1), (45, .if_icmp .ge 7, 3), (48, .iload_n 2, 1), (49, .goto 4, 3), (52, .iload_n 3, 1), (53, .iload_n 2, 1), (54, .iload_n 3, 1), (55, .if_icmp .ge 7, 3), (58, .iload_n 3, 1), (59, .goto 4, 3), (62, .iload_n 2, 1), (63, .iload 4, 2), (65, .invokevirtual 174, 3), (68, .ifCond .eq 7, 3), (71, .iconst 1, 1), (72, .goto 4, 3), (75, .iconst 0, 1), (76, .ireturn, 1)]
def zdl_125 : List (Nat × Instr × Nat) := [(0, .aload_n 0, 1), (1, .invokespecial 1, 3), (4, .aload_n 0, 1), (5, .iconst 1, 1), (6, .putfield 7, 3), (9, .aload_n 0, 1), (10, .bipush 21, 2), (12, .newarray .int, 2), (14, .putfield 13, 3), (17, .aload_n 0, 1), (18, .bipush 12, 2), (20, .newarray .int, 2), (22, .putfield 17, 3), (25, .aload_n 0, 1), (26, .bipush 12, 2), (28, .newarray .int, 2), (30, .putfield 20, 3), (33, .aload_n 0, 1), (34, .bipush 12, 2), (36, .newarray .int, 2), (38, .putfield 23, 3), (41, .aload_n 0, 1), (42, .sipush 12288, 3), (45, .newarray .int, 2), (47, .putfield 26, 3), (50, .aload_n 0, 1), (51, .iconst 3, 1), (52, .newarray .boolean, 2), (54, .putfield 29, 3), (57, .aload_n 0, 1), (58, .sipush 240, 3), (61, .newarray .long, 2), (63, .putfield 33, 3), (66, .aload_n 0, 1), (67, .sipush 240, 3), (70, .newarray .long, 2), (72, .putfield 37, 3), (75, .aload_n 0, 1), (76, .bipush 16, 2), (78, .newarray .int, 2), (80, .putfield 40, 3), (83, .aload_n 0, 1), (84, .bipush 32, 2), (86, .newarray .int, 2), (88, .putfield 43, 3), (91, .aload_n 0, 1), (92, .bipush 32, 2), (94, .newarray .int, 2), (96, .putfield 46, 3), (99, .aload_n 0, 1), (100, .bipush 12, 2), (102, .newarray .int, 2), (104, .putfield 49, 3), (107, .aload_n 0, 1), (108, .bipush 49, 2), (110, .newarray .boolean, 2), (112, .putfield 52, 3), (115, .aload_n 0, 1), (116, .bipush 12, 2), (118, .newarray .long, 2), (120, .putfield 55, 3), (123, .aload_n 0, 1), (124, .bipush 16, 2), (126, .newarray .int, 2), (128, .putfield 58, 3), (131, .aload_n 0, 1), (132, .sipush 240, 3), (135, .newarray .long, 2), (137, .putfield 61, 3), (140, .aload_n 0, 1), (141, .bipush 7, 2), (143, .newarray .int, 2), (145, .putfield 64, 3), (148, .aload_n 0, 1), (149, .invokevirtual 67, 3), (152, .return_, 1)]
def zdl_126 : List (Nat × Instr × Nat) := [(0, .lconst 1, 1), (1, .lstore 4, 2), (3, .lload_n 0, 1), (4, .lstore 6, 2), (6, .lload_n 2, 1), (7, .ldc2_w 94, 3), (10, .lsub, 1), (11, .lstore 8, 2), (13, .lload 8, 2), (15, .lconst 0, 1), (16, .lcmp, 1), (17, .ifCond .le 44, 3), (20, .lload 8, 2), (22, .lconst 1, 1), (23, .land, 1), (24, .lconst 1, 1), (25, .lcmp, 1), (26, .ifCond .ne 13, 3), (29, .lload 4, 2), (31, .lload 6, 2), (33, .lmul, 1), (34, .lload_n 2, 1), (35, .lrem, 1), (36, .goto 5, 3), (39, .lload 4, 2), (41, .lstore 4, 2), (43, .lload 6, 2), (45, .lload 6, 2), (47, .lmul, 1), (48, .lload_n 2, 1), (49, .lrem, 1), (50, .lstore 6, 2), (52, .lload 8, 2), (54, .iconst 1, 1), (55, .lshr, 1), (56, .lstore 8, 2), (58, .goto (-45), 3), (61, .lload 4, 2), (63, .lreturn, 1)]
def zdl_127 : List (Nat × Instr × Nat) := [(0, .iconst 1, 1), (1, .istore_n 1, 1), (2, .iconst 0, 1), (3, .istore_n 2, 1), (4, .iconst 0, 1), (5, .istore_n 3, 1), (6, .iload_n 3, 1), (7, .aload_n 0, 1), (8, .getfield 7, 3), (11, .if_icmp .ge 62, 3), (14, .iload_n 1, 1), (15, .ifCond .eq 39, 3), (18, .aload_n 0, 1), (19, .aload_n 0, 1), (20, .getfield 64, 3), (23, .iload_n 3, 1), (24, .iaload, 1), (25, .iload_n 2, 1), (26, .invokevirtual 235, 3), (29, .iload_n 3, 1), (30, .ifCond .ne 7, 3), (33, .iconst 0, 1), (34, .goto 13, 3), (37, .iload_n 3, 1), (38, .iconst 1, 1), (39, .if_icmp .ne 7, 3), (42, .iconst 1, 1), (43, .goto 4, 3), (46, .iconst 2, 1), (47, .if_icmp .ne 7, 3), (50, .iconst 1, 1), (51, .goto 4, 3), (54, .iconst 0, 1), (55, .istore_n 1, 1), (56, .iload_n 2, 1), (57, .iconst 1, 1), (58, .aload_n 0, 1), (59, .getfield 64, 3), (62, .iload_n 3, 1), (63, .iaload, 1), (64, .ishl, 1), (65, .ior, 1), (66, .istore_n 2, 1), (67, .iinc 3 1, 3), (70, .goto (-64), 3), (73, .iload_n 1, 1), (74, .ireturn, 1)]
def zdl_128 : List (Nat × Instr × Nat) := [(0, .iload_n 2, 1), (1, .invokestatic 126, 3), (4, .istore_n 3, 1), (5, .iload_n 3, 1), (6, .ifCond .le 17, 3), (9, .aload_n 0, 1), (10, .iload_n 1, 1), (11, .iload_n 2, 1), (12, .invokevirtual 164, 3), (15, .iload_n 3, 1), (16, .if_icmp .ge 7, 3), (19, .iconst 1, 1), (20, .goto 4, 3), (23, .iconst 0, 1), (24, .istore 4, 2), (26, .iconst 0, 1), (27, .istore 5, 2), (29, .iload 5, 2), (31, .aload_n 0, 1), (32, .getfield 74, 3), (35, .if_icmp .ge 49, 3), (38, .iload 4, 2), (40, .ifCond .eq 44, 3), (43, .iload_n 2, 1), (44, .iload 5, 2), (46, .ishr, 1), (47, .iconst 1, 1), (48, .iand, 1), (49, .ifCond .eq 22, 3), (52, .aload_n 0, 1), (53, .iload_n 1, 1), (54, .iload_n 2, 1), (55, .iconst 1, 1), (56, .iload 5, 2), (58, .ishl, 1), (59, .iconst (-1), 1), (60, .ixor, 1), (61, .iand, 1), (62, .invokevirtual 164, 3), (65, .iload_n 3, 1), (66, .iconst 1, 1), (67, .isub, 1), (68, .if_icmp .ne 7, 3), (71, .iconst 1, 1), (72, .goto 4, 3), (75, .iconst 0, 1), (76, .istore 4, 2), (78, .iinc 5 1, 3), (81, .goto (-52), 3), (84, .iload 4, 2), (86, .ireturn, 1)]
def zdl_129 : List (Nat × Instr × Nat) := [(0, .iconst 1, 1), (1, .istore_n 1, 1), (2, .iconst 1, 1), (3, .istore_n 2, 1), (4, .iload_n 2, 1), (5, .iconst 1, 1), (6, .aload_n 0, 1), (7, .getfield 7, 3), (10, .ishl, 1), (11, .if_icmp .ge 88, 3), (14, .iload_n 1, 1), (15, .ifCond .eq 84, 3), (18, .iconst 0, 1), (19, .istore_n 3, 1), (20, .iconst 0, 1), (21, .istore 4, 2), (23, .iload 4, 2), (25, .aload_n 0, 1), (26, .getfield 123, 3), (29, .if_icmp .ge 42, 3), (32, .iload_n 2, 1), (33, .aload_n 0, 1), (34, .getfield 43, 3), (37, .iload 4, 2), (39, .iaload, 1), (40, .ishr, 1), (41, .iload_n 2, 1), (42, .aload_n 0, 1), (43, .getfield 46, 3), (46, .iload 4, 2), (48, .iaload, 1), (49, .ishr, 1), (50, .iand, 1), (51, .iconst 1, 1), (52, .iand, 1), (53, .iconst 1, 1), (54, .if_icmp .ne 9, 3), (57, .iload_n 3, 1), (58, .iconst 1, 1), (59, .iadd, 1), (60, .goto 4, 3), (63, .iload_n 3, 1), (64, .istore_n 3, 1), (65, .iinc 4 1, 3), (68, .goto (-45), 3), (71, .iload_n 3, 1), (72, .ifCond .eq 15, 3), (75, .iload_n 3, 1), (76, .iconst 2, 1), (77, .iload_n 2, 1), (78, .invokestatic 126, 3), (81, .imul, 1), (82, .iconst 3, 1), (83, .isub, 1), (84, .if_icmp .gt 7, 3), (87, .iconst 1, 1), (88, .goto 4, 3), (91, .iconst 0, 1), (92, .istore_n 1, 1), (93, .iinc 2 1, 3), (96, .goto (-92), 3), (99, .iload_n 1, 1), (100, .ireturn, 1)]
def zdl_130 : List (Nat × Instr × Nat) := [(0, .aload_n 0, 1), (1, .iload_n 1, 1), (2, .iload 4, 2), (4, .invokevirtual 164, 3), (7, .istore 5, 2), (9, .iload_n 1, 1), (10, .iconst 2, 1), (11, .if_icmp .ge 32, 3), (14, .aload_n 0, 1), (15, .iload_n 1, 1), (16, .iload 4, 2), (18, .invokevirtual 144, 3), (21, .aload_n 0, 1), (22, .iload_n 1, 1), (23, .iload_n 2, 1), (24, .iload_n 3, 1), (25, .invokevirtual 90, 3), (28, .aload_n 0, 1), (29, .invokevirtual 147, 3), (32, .iload 5, 2), (34, .if_icmp .ne 7, 3), (37, .iconst 1, 1), (38, .goto 4, 3), (41, .iconst 0, 1), (42, .ireturn, 1), (43, .aload_n 0, 1), (44, .iconst 0, 1), (45, .putfield 123, 3), (48, .iconst 0, 1), (49, .istore 6, 2), (51, .iload 6, 2), (53, .aload_n 0, 1), (54, .getfield 74, 3), (57, .if_icmp .ge 39, 3), (60, .iload 4, 2), (62, .iload 6, 2), (64, .ishr, 1), (65, .iconst 1, 1), (66, .iand, 1), (67, .iconst 1, 1), (68, .if_icmp .ne 22, 3), (71, .aload_n 0, 1), (72, .aload_n 0, 1), (73, .getfield 17, 3), (76, .iload 6, 2), (78, .iaload, 1), (79, .aload_n 0, 1), (80, .getfield 20, 3), (83, .iload 6, 2), (85, .iaload, 1), (86, .invokevirtual 170, 3), (89, .pop, 1), (90, .iinc 6 1, 3), (93, .goto (-42), 3), (96, .aload_n 0, 1), (97, .iload_n 2, 1), (98, .iload_n 3, 1), (99, .invokevirtual 170, 3), (102, .ifCond .ne 7, 3), (105, .iconst 1, 1), (106, .goto 4, 3), (109, .iconst 0, 1), (110, .ireturn, 1)]
def zdl_131 : List (Nat × Instr × Nat) := [(0, .iload_n 0, 1), (1, .iload_n 1, 1), (2, .if_icmp .lt 12, 3), (5, .iload_n 0, 1), (6, .iload_n 2, 1), (7, .if_icmp .gt 7, 3), (10, .iconst 1, 1), (11, .goto 4, 3), (14, .iconst 0, 1), (15, .ireturn, 1)]
def zdl_132 : List (Nat × Instr × Nat) := [(0, .iload_n 1, 1), (1, .iconst 0, 1), (2, .aload_n 0, 1), (3, .getfield 7, 3), (6, .iconst 1, 1), (7, .isub, 1), (8, .invokestatic 70, 3), (11, .ireturn, 1)]
def zdl_133 : List (Nat × Instr × Nat) := [(0, .iload_n 3, 1), (1, .invokestatic 126, 3), (4, .istore 4, 2), (6, .aload_n 0, 1), (7, .iload_n 1, 1), (8, .iload_n 3, 1), (9, .invokevirtual 164, 3), (12, .istore 5, 2), (14, .aload_n 0, 1), (15, .iload_n 1, 1), (16, .aload_n 0, 1), (17, .invokevirtual 151, 3), (20, .invokevirtual 164, 3), (23, .istore 6, 2), (25, .iload_n 2, 1), (26, .tableswitch 107 0 5 #[38, 51, 71, 78, 107, 91], 38), (64, .iload 5, 2), (66, .iload 4, 2), (68, .if_icmp .ne 7, 3), (71, .iconst 1, 1), (72, .goto 4, 3), (75, .iconst 0, 1), (76, .ireturn, 1), (77, .iload 5, 2), (79, .iload 4, 2), (81, .if_icmp .ne 14, 3), (84, .iload 5, 2), (86, .iload 6, 2), (88, .if_icmp .ne 7, 3), (91, .iconst 1, 1), (92, .goto 4, 3), (95, .iconst 0, 1), (96, .ireturn, 1), (97, .aload_n 0, 1), (98, .iload_n 1, 1), (99, .iload_n 3, 1), (100, .invokevirtual 191, 3), (103, .ireturn, 1), (104, .iload 5, 2), (106, .iload 6, 2), (108, .if_icmp .ne 7, 3), (111, .iconst 1, 1), (112, .goto 4, 3), (115, .iconst 0, 1), (116, .ireturn, 1), (117, .aload_n 0, 1), (118, .iload_n 1, 1), (119, .iload_n 3, 1), (120, .invokevirtual 167, 3), (123, .iload_n 3, 1), (124, .if_icmp .ne 7, 3), (127, .iconst 1, 1), (128, .goto 4, 3), (131, .iconst 0, 1), (132, .ireturn, 1), (133, .aload_n 0, 1), (134, .iload_n 1, 1), (135, .iload_n 3, 1), (136, .invokevirtual 194, 3), (139, .ireturn, 1)]
def zdl_134 : List (Nat × Instr × Nat) := [(0, .aload_n 0, 1), (1, .iload_n 1, 1), (2, .iload_n 2, 1), (3, .invokevirtual 188, 3), (6, .istore_n 3, 1), (7, .iconst 0, 1), (8, .istore 4, 2), (10, .iload 4, 2), (12, .aload_n 0, 1), (13, .getfield 74, 3), (16, .if_icmp .ge 44, 3), (19, .iload_n 3, 1), (20, .ifCond .eq 40, 3), (23, .iload_n 2, 1), (24, .iload 4, 2), (26, .ishr, 1), (27, .iconst 1, 1), (28, .iand, 1), (29, .ifCond .eq 19, 3), (32, .aload_n 0, 1), (33, .iload_n 1, 1), (34, .iload_n 2, 1), (35, .iconst 1, 1), (36, .iload 4, 2), (38, .ishl, 1), (39, .iconst (-1), 1), (40, .ixor, 1), (41, .iand, 1), (42, .invokevirtual 188, 3), (45, .ifCond .ne 7, 3), (48, .iconst 1, 1), (49, .goto 4, 3), (52, .iconst 0, 1), (53, .istore_n 3, 1), (54, .iinc 4 1, 3), (57, .goto (-47), 3), (60, .iload_n 3, 1), (61, .ireturn, 1)]
def zdb_4 : List (ByteArray × List (Nat × Instr × Nat)) := [(cX7_end, zdl_117), (cX7_exactRank, zdl_118), (cX7_findParts, zdl_119), (cX7_findStress, zdl_120), (cX7_hangs, zdl_121), (cX7_helped, zdl_122), (cX7_holds, zdl_123), (cX7_implied, zdl_124), (cX7_init, zdl_125), (cX7_inverse, zdl_126), (cX7_isBuilt, zdl_127), (cX7_isCircuit, zdl_128), (cX7_isFree, zdl_129), (cX7_isImplied, zdl_130), (cX7_isIn, zdl_131), (cX7_isJoint, zdl_132), (cX7_isKind, zdl_133), (cX7_isLeastMeeting, zdl_134)]
set_option maxRecDepth 100000 in
theorem zdo_117 : zdl_117.all (fun e => decide (decode cX7_end e.1 = .ok e.2)) = true := by decide +kernel
set_option maxRecDepth 100000 in
theorem zdo_118 : zdl_118.all (fun e => decide (decode cX7_exactRank e.1 = .ok e.2)) = true := by decide +kernel
set_option maxRecDepth 100000 in
theorem zdo_119 : zdl_119.all (fun e => decide (decode cX7_findParts e.1 = .ok e.2)) = true := by decide +kernel
set_option maxRecDepth 100000 in
theorem zdo_120 : zdl_120.all (fun e => decide (decode cX7_findStress e.1 = .ok e.2)) = true := by decide +kernel
set_option maxRecDepth 100000 in
theorem zdo_121 : zdl_121.all (fun e => decide (decode cX7_hangs e.1 = .ok e.2)) = true := by decide +kernel
set_option maxRecDepth 100000 in
theorem zdo_122 : zdl_122.all (fun e => decide (decode cX7_helped e.1 = .ok e.2)) = true := by decide +kernel
set_option maxRecDepth 100000 in
theorem zdo_123 : zdl_123.all (fun e => decide (decode cX7_holds e.1 = .ok e.2)) = true := by decide +kernel
set_option maxRecDepth 100000 in
theorem zdo_124 : zdl_124.all (fun e => decide (decode cX7_implied e.1 = .ok e.2)) = true := by decide +kernel
set_option maxRecDepth 100000 in
theorem zdo_125 : zdl_125.all (fun e => decide (decode cX7_init e.1 = .ok e.2)) = true := by decide +kernel
set_option maxRecDepth 100000 in
theorem zdo_126 : zdl_126.all (fun e => decide (decode cX7_inverse e.1 = .ok e.2)) = true := by decide +kernel
set_option maxRecDepth 100000 in
theorem zdo_127 : zdl_127.all (fun e => decide (decode cX7_isBuilt e.1 = .ok e.2)) = true := by decide +kernel
set_option maxRecDepth 100000 in
theorem zdo_128 : zdl_128.all (fun e => decide (decode cX7_isCircuit e.1 = .ok e.2)) = true := by decide +kernel
set_option maxRecDepth 100000 in
theorem zdo_129 : zdl_129.all (fun e => decide (decode cX7_isFree e.1 = .ok e.2)) = true := by decide +kernel
set_option maxRecDepth 100000 in
theorem zdo_130 : zdl_130.all (fun e => decide (decode cX7_isImplied e.1 = .ok e.2)) = true := by decide +kernel
set_option maxRecDepth 100000 in
theorem zdo_131 : zdl_131.all (fun e => decide (decode cX7_isIn e.1 = .ok e.2)) = true := by decide +kernel
set_option maxRecDepth 100000 in
theorem zdo_132 : zdl_132.all (fun e => decide (decode cX7_isJoint e.1 = .ok e.2)) = true := by decide +kernel
set_option maxRecDepth 100000 in
theorem zdo_133 : zdl_133.all (fun e => decide (decode cX7_isKind e.1 = .ok e.2)) = true := by decide +kernel
set_option maxRecDepth 100000 in
theorem zdo_134 : zdl_134.all (fun e => decide (decode cX7_isLeastMeeting e.1 = .ok e.2)) = true := by decide +kernel
theorem zdk_4 : ∀ q ∈ zdb_4, q.2.all (fun e => decide (decode q.1 e.1 = .ok e.2)) = true := by
  intro q hq
  simp only [zdb_4, List.mem_cons, List.not_mem_nil, or_false] at hq
  rcases hq with rfl | rfl | rfl | rfl | rfl | rfl | rfl | rfl | rfl | rfl | rfl | rfl | rfl | rfl | rfl | rfl | rfl | rfl
  · exact zdo_117
  · exact zdo_118
  · exact zdo_119
  · exact zdo_120
  · exact zdo_121
  · exact zdo_122
  · exact zdo_123
  · exact zdo_124
  · exact zdo_125
  · exact zdo_126
  · exact zdo_127
  · exact zdo_128
  · exact zdo_129
  · exact zdo_130
  · exact zdo_131
  · exact zdo_132
  · exact zdo_133
  · exact zdo_134
end
section
def zdl_135 : List (Nat × Instr × Nat) := [(0, .aload_n 0, 1), (1, .iload_n 1, 1), (2, .aload_n 0, 1), (3, .invokevirtual 151, 3), (6, .iload_n 2, 1), (7, .iconst (-1), 1), (8, .ixor, 1), (9, .iand, 1), (10, .invokevirtual 164, 3), (13, .aload_n 0, 1), (14, .iload_n 1, 1), (15, .aload_n 0, 1), (16, .invokevirtual 151, 3), (19, .invokevirtual 164, 3), (22, .if_icmp .ge 7, 3), (25, .iconst 1, 1), (26, .goto 4, 3), (29, .iconst 0, 1), (30, .ireturn, 1)]
def zdl_136 : List (Nat × Instr × Nat) := [(0, .iconst 1, 1), (1, .istore_n 2, 1), (2, .iconst 0, 1), (3, .istore_n 3, 1), (4, .iload_n 3, 1), (5, .aload_n 0, 1), (6, .getfield 7, 3), (9, .if_icmp .ge 41, 3), (12, .iconst 0, 1), (13, .istore 4, 2), (15, .iload 4, 2), (17, .iload_n 3, 1), (18, .if_icmp .ge 26, 3), (21, .iload_n 2, 1), (22, .ifCond .eq 22, 3), (25, .aload_n 0, 1), (26, .iload_n 1, 1), (27, .iload 4, 2), (29, .iload_n 3, 1), (30, .aload_n 0, 1), (31, .invokevirtual 151, 3), (34, .invokevirtual 174, 3), (37, .istore_n 2, 1), (38, .iinc 4 1, 3), (41, .goto (-26), 3), (44, .iinc 3 1, 3), (47, .goto (-43), 3), (50, .iload_n 2, 1), (51, .ireturn, 1)]
def zdl_137 : List (Nat × Instr × Nat) := [(0, .iload_n 1, 1), (1, .iconst 0, 1), (2, .aload_n 0, 1), (3, .invokevirtual 151, 3), (6, .invokestatic 70, 3), (9, .ireturn, 1)]
def zdl_138 : List (Nat × Instr × Nat) := [(0, .iload_n 1, 1), (1, .iconst 0, 1), (2, .iconst 2, 1), (3, .invokestatic 70, 3), (6, .ifCond .eq 20, 3), (9, .iload_n 1, 1), (10, .iconst 1, 1), (11, .if_icmp .ne 11, 3), (14, .aload_n 0, 1), (15, .getfield 7, 3), (18, .iconst 5, 1), (19, .if_icmp .gt 7, 3), (22, .iconst 1, 1), (23, .goto 4, 3), (26, .iconst 0, 1), (27, .ireturn, 1)]
def zdl_139 : List (Nat × Instr × Nat) := [(0, .iload_n 0, 1), (1, .bipush (-4), 2), (3, .iconst 4, 1), (4, .invokestatic 70, 3), (7, .ireturn, 1)]
def zdl_140 : List (Nat × Instr × Nat) := [(0, .iconst 1, 1), (1, .istore_n 2, 1), (2, .iconst 0, 1), (3, .istore_n 3, 1), (4, .iload_n 3, 1), (5, .aload_n 0, 1), (6, .getfield 7, 3), (9, .if_icmp .ge 62, 3), (12, .iconst 0, 1), (13, .istore 4, 2), (15, .iload 4, 2), (17, .iload_n 3, 1), (18, .if_icmp .ge 47, 3), (21, .iload_n 2, 1), (22, .ifCond .eq 35, 3), (25, .iload_n 1, 1), (26, .iload 4, 2), (28, .ishr, 1), (29, .iload_n 1, 1), (30, .iload_n 3, 1), (31, .ishr, 1), (32, .iand, 1), (33, .iconst 1, 1), (34, .iand, 1), (35, .ifCond .eq 18, 3), (38, .aload_n 0, 1), (39, .getfield 52, 3), (42, .bipush 7, 2), (44, .iload 4, 2), (46, .imul, 1), (47, .iload_n 3, 1), (48, .iadd, 1), (49, .baload, 1), (50, .ifCond .eq 7, 3), (53, .iconst 1, 1), (54, .goto 4, 3), (57, .iconst 0, 1), (58, .istore_n 2, 1), (59, .iinc 4 1, 3), (62, .goto (-47), 3), (65, .iinc 3 1, 3), (68, .goto (-64), 3), (71, .iload_n 2, 1), (72, .ireturn, 1)]
def zdl_141 : List (Nat × Instr × Nat) := [(0, .aload_n 0, 1), (1, .iload_n 1, 1), (2, .invokevirtual 77, 3), (5, .ifCond .eq 25, 3), (8, .iload_n 2, 1), (9, .invokestatic 81, 3), (12, .ifCond .eq 18, 3), (15, .iload_n 3, 1), (16, .invokestatic 81, 3), (19, .ifCond .eq 11, 3), (22, .iload 4, 2), (24, .invokestatic 81, 3), (27, .ifCond .ne 6, 3), (30, .bipush (-2), 2), (32, .ireturn, 1), (33, .iconst 3, 1), (34, .iload_n 1, 1), (35, .imul, 1), (36, .istore 5, 2), (38, .aload_n 0, 1), (39, .getfield 13, 3), (42, .iload 5, 2), (44, .iaload, 1), (45, .iload_n 2, 1), (46, .if_icmp .ne 30, 3), (49, .aload_n 0, 1), (50, .getfield 13, 3), (53, .iload 5, 2), (55, .iconst 1, 1), (56, .iadd, 1), (57, .iaload, 1), (58, .iload_n 3, 1), (59, .if_icmp .ne 17, 3), (62, .aload_n 0, 1), (63, .getfield 13, 3), (66, .iload 5, 2), (68, .iconst 2, 1), (69, .iadd, 1), (70, .iaload, 1), (71, .iload 4, 2), (73, .if_icmp .eq 7, 3), (76, .iconst 1, 1), (77, .goto 4, 3), (80, .iconst 0, 1), (81, .istore 6, 2), (83, .aload_n 0, 1), (84, .getfield 13, 3), (87, .iload 5, 2), (89, .iload_n 2, 1), (90, .iastore, 1), (91, .aload_n 0, 1), (92, .getfield 13, 3), (95, .iload 5, 2), (97, .iconst 1, 1), (98, .iadd, 1), (99, .iload_n 3, 1), (100, .iastore, 1), (101, .aload_n 0, 1), (102, .getfield 13, 3), (105, .iload 5, 2), (107, .iconst 2, 1), (108, .iadd, 1), (109, .iload 4, 2), (111, .iastore, 1), (112, .aload_n 0, 1), (113, .invokevirtual 67, 3), (116, .iload 6, 2), (118, .ifCond .eq 7, 3), (121, .iconst 1, 1), (122, .goto 4, 3), (125, .iconst 0, 1), (126, .ireturn, 1)]
def zdl_142 : List (Nat × Instr × Nat) := [(0, .aload_n 0, 1), (1, .iload_n 1, 1), (2, .invokevirtual 158, 3), (5, .ifCond .ne 6, 3), (8, .bipush (-2), 2), (10, .ireturn, 1), (11, .aload_n 0, 1), (12, .iload_n 1, 1), (13, .aload_n 0, 1), (14, .invokevirtual 151, 3), (17, .invokevirtual 164, 3), (20, .istore_n 2, 1), (21, .iconst 0, 1), (22, .istore_n 3, 1), (23, .iload_n 1, 1), (24, .iconst 2, 1), (25, .if_icmp .ge 38, 3), (28, .aload_n 0, 1), (29, .iconst 0, 1), (30, .putfield 87, 3), (33, .iconst 0, 1), (34, .istore 4, 2), (36, .iload 4, 2), (38, .aload_n 0, 1), (39, .getfield 7, 3), (42, .if_icmp .ge 18, 3), (45, .aload_n 0, 1), (46, .iload_n 1, 1), (47, .iload 4, 2), (49, .iload_n 3, 1), (50, .invokevirtual 181, 3), (53, .istore_n 3, 1), (54, .iinc 4 1, 3), (57, .goto (-21), 3), (60, .goto 61, 3), (63, .aload_n 0, 1), (64, .iconst 0, 1), (65, .putfield 123, 3), (68, .iconst 0, 1), (69, .istore 4, 2), (71, .iload 4, 2), (73, .aload_n 0, 1), (74, .getfield 7, 3), (77, .if_icmp .ge 44, 3), (80, .iconst 0, 1), (81, .istore 5, 2), (83, .iload 5, 2), (85, .iload 4, 2), (87, .if_icmp .ge 28, 3), (90, .aload_n 0, 1), (91, .iload 5, 2), (93, .iload 4, 2), (95, .invokevirtual 170, 3), (98, .ifCond .eq 9, 3), (101, .iload_n 3, 1), (102, .iconst 1, 1), (103, .iadd, 1), (104, .goto 4, 3), (107, .iload_n 3, 1), (108, .istore_n 3, 1), (109, .iinc 5 1, 3), (112, .goto (-29), 3), (115, .iinc 4 1, 3), (118, .goto (-47), 3), (121, .iload_n 3, 1), (122, .iload_n 2, 1), (123, .isub, 1), (124, .ireturn, 1)]
def zdl_143 : List (Nat × Instr × Nat) := [(0, .lload_n 0, 1), (1, .lload_n 2, 1), (2, .lrem, 1), (3, .lstore 4, 2), (5, .lload 4, 2), (7, .lconst 0, 1), (8, .lcmp, 1), (9, .ifCond .ge 10, 3), (12, .lload 4, 2), (14, .lload_n 2, 1), (15, .ladd, 1), (16, .goto 5, 3), (19, .lload 4, 2), (21, .lreturn, 1)]
def zdl_144 : List (Nat × Instr × Nat) := [(0, .aload_n 0, 1), (1, .iload_n 1, 1), (2, .invokevirtual 158, 3), (5, .ifCond .eq 13, 3), (8, .iload_n 2, 1), (9, .iconst 0, 1), (10, .bipush 6, 2), (12, .invokestatic 70, 3), (15, .ifCond .ne 6, 3), (18, .bipush (-2), 2), (20, .ireturn, 1), (21, .iload_n 2, 1), (22, .iconst 4, 1), (23, .if_icmp .ne 15, 3), (26, .aload_n 0, 1), (27, .iload_n 1, 1), (28, .iconst (-1), 1), (29, .invokevirtual 203, 3), (32, .pop, 1), (33, .aload_n 0, 1), (34, .getfield 200, 3), (37, .ireturn, 1), (38, .iconst 0, 1), (39, .istore_n 3, 1), (40, .iconst 0, 1), (41, .istore 4, 2), (43, .iload 4, 2), (45, .aload_n 0, 1), (46, .invokevirtual 151, 3), (49, .if_icmp .gt 28, 3), (52, .aload_n 0, 1), (53, .iload_n 1, 1), (54, .iload_n 2, 1), (55, .iload 4, 2), (57, .invokevirtual 206, 3), (60, .ifCond .eq 9, 3), (63, .iload_n 3, 1), (64, .iconst 1, 1), (65, .iadd, 1), (66, .goto 4, 3), (69, .iload_n 3, 1), (70, .istore_n 3, 1), (71, .iinc 4 1, 3), (74, .goto (-31), 3), (77, .iload_n 3, 1), (78, .ireturn, 1)]
def zdl_145 : List (Nat × Instr × Nat) := [(0, .aload_n 0, 1), (1, .iload_n 1, 1), (2, .iload_n 2, 1), (3, .iconst 1, 1), (4, .iload_n 3, 1), (5, .ishl, 1), (6, .iconst (-1), 1), (7, .ixor, 1), (8, .iand, 1), (9, .invokevirtual 144, 3), (12, .aload_n 0, 1), (13, .getfield 87, 3), (16, .istore 6, 2), (18, .iconst 0, 1), (19, .istore 7, 2), (21, .iload 7, 2), (23, .iload 6, 2), (25, .if_icmp .ge 56, 3), (28, .iconst 0, 1), (29, .istore 8, 2), (31, .iload 8, 2), (33, .iload 6, 2), (35, .if_icmp .ge 40, 3), (38, .aload_n 0, 1), (39, .getfield 61, 3), (42, .bipush 15, 2), (44, .iload 7, 2), (46, .imul, 1), (47, .iload 8, 2), (49, .iadd, 1), (50, .aload_n 0, 1), (51, .getfield 33, 3), (54, .bipush 15, 2), (56, .iload 7, 2), (58, .imul, 1), (59, .aload_n 0, 1), (60, .getfield 58, 3), (63, .iload 8, 2), (65, .iaload, 1), (66, .iadd, 1), (67, .laload, 1), (68, .lastore, 1), (69, .iinc 8 1, 3), (72, .goto (-41), 3), (75, .iinc 7 1, 3), (78, .goto (-57), 3), (81, .iconst 0, 1), (82, .istore 7, 2), (84, .iload 7, 2), (86, .iload 6, 2), (88, .if_icmp .ge 51, 3), (91, .iconst 0, 1), (92, .istore 8, 2), (94, .iload 8, 2), (96, .iload 6, 2), (98, .if_icmp .ge 35, 3), (101, .aload_n 0, 1), (102, .getfield 33, 3), (105, .bipush 15, 2), (107, .iload 7, 2), (109, .imul, 1), (110, .iload 8, 2), (112, .iadd, 1), (113, .aload_n 0, 1), (114, .getfield 61, 3), (117, .bipush 15, 2), (119, .iload 7, 2), (121, .imul, 1), (122, .iload 8, 2), (124, .iadd, 1), (125, .laload, 1), (126, .lastore, 1), (127, .iinc 8 1, 3), (130, .goto (-36), 3), (133, .iinc 7 1, 3), (136, .goto (-52), 3), (139, .aload_n 0, 1), (140, .iload 6, 2), (142, .putfield 84, 3), (145, .iload 6, 2), (147, .ifCond .ne 7, 3), (150, .lconst 1, 1), (151, .goto 22, 3), (154, .aload_n 0, 1), (155, .lload 4, 2), (157, .invokevirtual 117, 3), (160, .iload 6, 2), (162, .if_icmp .ge 7, 3), (165, .lconst 0, 1), (166, .goto 7, 3), (169, .aload_n 0, 1), (170, .getfield 100, 3), (173, .lreturn, 1)]
def zdl_146 : List (Nat × Instr × Nat) := [(0, .aload_n 0, 1), (1, .getfield 7, 3), (4, .iconst 2, 1), (5, .isub, 1), (6, .istore_n 1, 1), (7, .iload_n 1, 1), (8, .ifCond .lt 26, 3), (11, .aload_n 0, 1), (12, .getfield 64, 3), (15, .iload_n 1, 1), (16, .iaload, 1), (17, .aload_n 0, 1), (18, .getfield 64, 3), (21, .iload_n 1, 1), (22, .iconst 1, 1), (23, .iadd, 1), (24, .iaload, 1), (25, .if_icmp .le 9, 3), (28, .iinc 1 (-1), 3), (31, .goto (-24), 3), (34, .iload_n 1, 1), (35, .ifCond .ge 5, 3), (38, .iconst 0, 1), (39, .ireturn, 1), (40, .aload_n 0, 1), (41, .getfield 7, 3), (44, .iconst 1, 1), (45, .isub, 1), (46, .istore_n 2, 1), (47, .aload_n 0, 1), (48, .getfield 64, 3), (51, .iload_n 2, 1), (52, .iaload, 1), (53, .aload_n 0, 1), (54, .getfield 64, 3), (57, .iload_n 1, 1), (58, .iaload, 1), (59, .if_icmp .ge 9, 3), (62, .iinc 2 (-1), 3), (65, .goto (-18), 3), (68, .aload_n 0, 1), (69, .getfield 64, 3), (72, .iload_n 1, 1), (73, .iaload, 1), (74, .istore_n 3, 1), (75, .aload_n 0, 1), (76, .getfield 64, 3), (79, .iload_n 1, 1), (80, .aload_n 0, 1), (81, .getfield 64, 3), (84, .iload_n 2, 1), (85, .iaload, 1), (86, .iastore, 1), (87, .aload_n 0, 1), (88, .getfield 64, 3), (91, .iload_n 2, 1), (92, .iload_n 3, 1), (93, .iastore, 1), (94, .iload_n 1, 1), (95, .iconst 1, 1), (96, .iadd, 1), (97, .istore 4, 2), (99, .aload_n 0, 1), (100, .getfield 7, 3), (103, .iconst 1, 1), (104, .isub, 1), (105, .istore 5, 2), (107, .iload 4, 2), (109, .iload 5, 2), (111, .if_icmp .ge 42, 3), (114, .aload_n 0, 1), (115, .getfield 64, 3), (118, .iload 4, 2), (120, .iaload, 1), (121, .istore_n 3, 1), (122, .aload_n 0, 1), (123, .getfield 64, 3), (126, .iload 4, 2), (128, .aload_n 0, 1), (129, .getfield 64, 3), (132, .iload 5, 2), (134, .iaload, 1), (135, .iastore, 1), (136, .aload_n 0, 1), (137, .getfield 64, 3), (140, .iload 5, 2), (142, .iload_n 3, 1), (143, .iastore, 1), (144, .iinc 4 1, 3), (147, .iinc 5 (-1), 3), (150, .goto (-43), 3), (153, .iconst 1, 1), (154, .ireturn, 1)]
def zdl_147 : List (Nat × Instr × Nat) := [(0, .aload_n 0, 1), (1, .getfield 7, 3), (4, .iconst 4, 1), (5, .if_icmp .ge 29, 3), (8, .aload_n 0, 1), (9, .getfield 74, 3), (12, .aload_n 0, 1), (13, .getfield 7, 3), (16, .aload_n 0, 1), (17, .getfield 7, 3), (20, .iconst 1, 1), (21, .isub, 1), (22, .imul, 1), (23, .iconst 2, 1), (24, .idiv, 1), (25, .if_icmp .ne 7, 3), (28, .iconst 1, 1), (29, .goto 4, 3), (32, .iconst 0, 1), (33, .ireturn, 1), (34, .aload_n 0, 1), (35, .iconst 2, 1), (36, .invokevirtual 185, 3), (39, .aload_n 0, 1), (40, .invokevirtual 151, 3), (43, .if_icmp .ne 15, 3), (46, .aload_n 0, 1), (47, .iconst 2, 1), (48, .invokevirtual 178, 3), (51, .ifCond .eq 7, 3), (54, .iconst 1, 1), (55, .goto 4, 3), (58, .iconst 0, 1), (59, .istore_n 1, 1), (60, .iconst 0, 1), (61, .istore_n 2, 1), (62, .iload_n 2, 1), (63, .aload_n 0, 1), (64, .getfield 7, 3), (67, .if_icmp .ge 51, 3), (70, .iconst 0, 1), (71, .istore_n 3, 1), (72, .iload_n 3, 1), (73, .iload_n 2, 1), (74, .if_icmp .ge 38, 3), (77, .iload_n 1, 1), (78, .ifCond .eq 34, 3), (81, .aload_n 0, 1), (82, .iconst 1, 1), (83, .aload_n 0, 1), (84, .getfield 7, 3), (87, .ishl, 1), (88, .iconst 1, 1), (89, .isub, 1), (90, .iconst 1, 1), (91, .iload_n 3, 1), (92, .ishl, 1), (93, .iconst (-1), 1), (94, .ixor, 1), (95, .iand, 1), (96, .iconst 1, 1), (97, .iload_n 2, 1), (98, .ishl, 1), (99, .iconst (-1), 1), (100, .ixor, 1), (101, .iand, 1), (102, .invokevirtual 244, 3), (105, .istore_n 1, 1), (106, .iinc 3 1, 3), (109, .goto (-37), 3), (112, .iinc 2 1, 3), (115, .goto (-53), 3), (118, .iload_n 1, 1), (119, .ifCond .eq 7, 3), (122, .iconst 1, 1), (123, .goto 4, 3), (126, .iconst 0, 1), (127, .ireturn, 1)]
def zdl_148 : List (Nat × Instr × Nat) := [(0, .iconst 0, 1), (1, .istore_n 1, 1), (2, .iconst 0, 1), (3, .istore_n 2, 1), (4, .iload_n 2, 1), (5, .bipush 12, 2), (7, .if_icmp .ge 17, 3), (10, .iload_n 1, 1), (11, .iload_n 0, 1), (12, .iload_n 2, 1), (13, .ishr, 1), (14, .iconst 1, 1), (15, .iand, 1), (16, .iadd, 1), (17, .istore_n 1, 1), (18, .iinc 2 1, 3), (21, .goto (-17), 3), (24, .iload_n 1, 1), (25, .ireturn, 1)]
def zdl_149 : List (Nat × Instr × Nat) := [(0, .aload_n 0, 1), (1, .iload_n 1, 1), (2, .invokevirtual 197, 3), (5, .iconst 0, 1), (6, .istore_n 3, 1), (7, .iconst (-1), 1), (8, .istore 4, 2), (10, .iconst 0, 1), (11, .istore 5, 2), (13, .iload 5, 2), (15, .aload_n 0, 1), (16, .getfield 74, 3), (19, .if_icmp .ge 48, 3), (22, .aload_n 0, 1), (23, .getfield 49, 3), (26, .iload 5, 2), (28, .iaload, 1), (29, .iconst 1, 1), (30, .iload 5, 2), (32, .ishl, 1), (33, .iconst 1, 1), (34, .isub, 1), (35, .iand, 1), (36, .ifCond .ne 25, 3), (39, .iload_n 3, 1), (40, .iload_n 2, 1), (41, .if_icmp .ne 13, 3), (44, .aload_n 0, 1), (45, .getfield 49, 3), (48, .iload 5, 2), (50, .iaload, 1), (51, .goto 5, 3), (54, .iload 4, 2), (56, .istore 4, 2), (58, .iinc 3 1, 3), (61, .iinc 5 1, 3), (64, .goto (-51), 3), (67, .aload_n 0, 1), (68, .iload_n 3, 1), (69, .putfield 200, 3), (72, .iload 4, 2), (74, .ireturn, 1)]
def zdl_150 : List (Nat × Instr × Nat) := [(0, .aload_n 0, 1), (1, .getfield 29, 3), (4, .iload_n 1, 1), (5, .baload, 1), (6, .ifCond .eq 4, 3), (9, .return_, 1), (10, .aload_n 0, 1), (11, .getfield 29, 3), (14, .iload_n 1, 1), (15, .iconst 1, 1), (16, .bastore, 1), (17, .iconst 0, 1), (18, .istore_n 2, 1), (19, .iload_n 2, 1), (20, .iconst 1, 1), (21, .aload_n 0, 1), (22, .getfield 74, 3), (25, .ishl, 1), (26, .if_icmp .ge 40, 3), (29, .aload_n 0, 1), (30, .getfield 26, 3), (33, .sipush 4096, 3), (36, .iload_n 1, 1), (37, .imul, 1), (38, .iload_n 2, 1), (39, .iadd, 1), (40, .iload_n 1, 1), (41, .iconst 2, 1), (42, .if_icmp .ge 12, 3), (45, .aload_n 0, 1), (46, .iload_n 1, 1), (47, .iload_n 2, 1), (48, .invokevirtual 137, 3), (51, .goto 8, 3), (54, .aload_n 0, 1), (55, .iload_n 2, 1), (56, .invokevirtual 141, 3), (59, .iastore, 1), (60, .iinc 2 1, 3), (63, .goto (-44), 3), (66, .return_, 1)]
def zdl_151 : List (Nat × Instr × Nat) := [(0, .aload_n 0, 1), (1, .getfield 43, 3), (4, .aload_n 0, 1), (5, .getfield 123, 3), (8, .iload_n 1, 1), (9, .iastore, 1), (10, .aload_n 0, 1), (11, .getfield 46, 3), (14, .aload_n 0, 1), (15, .getfield 123, 3), (18, .iload_n 2, 1), (19, .iastore, 1), (20, .aload_n 0, 1), (21, .dup, 1), (22, .getfield 123, 3), (25, .iconst 1, 1), (26, .iadd, 1), (27, .putfield 123, 3), (30, .return_, 1)]
def zdl_152 : List (Nat × Instr × Nat) := [(0, .iload_n 1, 1), (1, .ifCond .ne 7, 3), (4, .iconst 2, 1), (5, .goto 4, 3), (8, .iconst 3, 1), (9, .istore 4, 2), (11, .aload_n 0, 1), (12, .iload 4, 2), (14, .aload_n 0, 1), (15, .getfield 7, 3), (18, .imul, 1), (19, .putfield 84, 3), (22, .iconst 0, 1), (23, .istore 5, 2), (25, .iload 5, 2), (27, .aload_n 0, 1), (28, .getfield 84, 3), (31, .if_icmp .ge 25, 3), (34, .aload_n 0, 1), (35, .getfield 33, 3), (38, .bipush 15, 2), (40, .aload_n 0, 1), (41, .getfield 87, 3), (44, .imul, 1), (45, .iload 5, 2), (47, .iadd, 1), (48, .lconst 0, 1), (49, .lastore, 1), (50, .iinc 5 1, 3), (53, .goto (-28), 3), (56, .iconst 0, 1), (57, .istore 5, 2), (59, .iload 5, 2), (61, .iload 4, 2), (63, .if_icmp .ge 81, 3), (66, .aload_n 0, 1), (67, .getfield 13, 3), (70, .iconst 3, 1), (71, .iload_n 2, 1), (72, .imul, 1), (73, .iload 5, 2), (75, .iadd, 1), (76, .iaload, 1), (77, .aload_n 0, 1), (78, .getfield 13, 3), (81, .iconst 3, 1), (82, .iload_n 3, 1), (83, .imul, 1), (84, .iload 5, 2), (86, .iadd, 1), (87, .iaload, 1), (88, .isub, 1), (89, .istore 6, 2), (91, .aload_n 0, 1), (92, .getfield 33, 3), (95, .bipush 15, 2), (97, .aload_n 0, 1), (98, .getfield 87, 3), (101, .imul, 1), (102, .iload 4, 2), (104, .iload_n 2, 1), (105, .imul, 1), (106, .iadd, 1), (107, .iload 5, 2), (109, .iadd, 1), (110, .iload 6, 2), (112, .i2l, 1), (113, .lastore, 1), (114, .aload_n 0, 1), (115, .getfield 33, 3), (118, .bipush 15, 2), (120, .aload_n 0, 1), (121, .getfield 87, 3), (124, .imul, 1), (125, .iload 4, 2), (127, .iload_n 3, 1), (128, .imul, 1), (129, .iadd, 1), (130, .iload 5, 2), (132, .iadd, 1), (133, .iload 6, 2), (135, .ineg, 1), (136, .i2l, 1), (137, .lastore, 1), (138, .iinc 5 1, 3), (141, .goto (-82), 3), (144, .aload_n 0, 1), (145, .dup, 1), (146, .getfield 87, 3), (149, .iconst 1, 1), (150, .iadd, 1), (151, .putfield 87, 3), (154, .return_, 1)]
def zdl_153 : List (Nat × Instr × Nat) := [(0, .aload_n 0, 1), (1, .iconst 0, 1), (2, .putfield 87, 3), (5, .iconst 0, 1), (6, .istore_n 3, 1), (7, .iload_n 3, 1), (8, .aload_n 0, 1), (9, .getfield 74, 3), (12, .if_icmp .ge 35, 3), (15, .iload_n 2, 1), (16, .iload_n 3, 1), (17, .ishr, 1), (18, .iconst 1, 1), (19, .iand, 1), (20, .iconst 1, 1), (21, .if_icmp .ne 20, 3), (24, .aload_n 0, 1), (25, .iload_n 1, 1), (26, .aload_n 0, 1), (27, .getfield 17, 3), (30, .iload_n 3, 1), (31, .iaload, 1), (32, .aload_n 0, 1), (33, .getfield 20, 3), (36, .iload_n 3, 1), (37, .iaload, 1), (38, .invokevirtual 90, 3), (41, .iinc 3 1, 3), (44, .goto (-37), 3), (47, .return_, 1)]
def zdl_154 : List (Nat × Instr × Nat) := [(0, .aload_n 0, 1), (1, .iload_n 1, 1), (2, .invokevirtual 158, 3), (5, .ifCond .eq 20, 3), (8, .aload_n 0, 1), (9, .iload_n 2, 1), (10, .invokevirtual 161, 3), (13, .ifCond .eq 12, 3), (16, .aload_n 0, 1), (17, .iload_n 1, 1), (18, .iload_n 2, 1), (19, .invokevirtual 164, 3), (22, .goto 5, 3), (25, .bipush (-2), 2), (27, .ireturn, 1)]
def zdl_155 : List (Nat × Instr × Nat) := [(0, .iconst 0, 1), (1, .istore_n 3, 1), (2, .iload_n 3, 1), (3, .aload_n 0, 1), (4, .getfield 87, 3), (7, .if_icmp .ge 55, 3), (10, .iconst 0, 1), (11, .istore 4, 2), (13, .iload 4, 2), (15, .aload_n 0, 1), (16, .getfield 84, 3), (19, .if_icmp .ge 37, 3), (22, .aload_n 0, 1), (23, .getfield 37, 3), (26, .bipush 15, 2), (28, .iload_n 3, 1), (29, .imul, 1), (30, .iload 4, 2), (32, .iadd, 1), (33, .aload_n 0, 1), (34, .getfield 33, 3), (37, .bipush 15, 2), (39, .iload_n 3, 1), (40, .imul, 1), (41, .iload 4, 2), (43, .iadd, 1), (44, .laload, 1), (45, .lload_n 1, 1), (46, .invokestatic 96, 3), (49, .lastore, 1), (50, .iinc 4 1, 3), (53, .goto (-40), 3), (56, .iinc 3 1, 3), (59, .goto (-57), 3), (62, .iconst 0, 1), (63, .istore_n 3, 1), (64, .aload_n 0, 1), (65, .lconst 1, 1), (66, .putfield 100, 3), (69, .iconst 0, 1), (70, .istore 4, 2), (72, .iload 4, 2), (74, .aload_n 0, 1), (75, .getfield 84, 3), (78, .if_icmp .ge 130, 3), (81, .iload_n 3, 1), (82, .aload_n 0, 1), (83, .getfield 87, 3), (86, .if_icmp .ge 122, 3), (89, .iload_n 3, 1), (90, .istore 5, 2), (92, .iload 5, 2), (94, .aload_n 0, 1), (95, .getfield 87, 3), (98, .if_icmp .ge 27, 3), (101, .aload_n 0, 1), (102, .getfield 37, 3), (105, .bipush 15, 2), (107, .iload 5, 2), (109, .imul, 1), (110, .iload 4, 2), (112, .iadd, 1), (113, .laload, 1), (114, .lconst 0, 1), (115, .lcmp, 1), (116, .ifCond .ne 9, 3), (119, .iinc 5 1, 3), (122, .goto (-30), 3), (125, .iload 5, 2), (127, .aload_n 0, 1), (128, .getfield 87, 3), (131, .if_icmp .ge 71, 3), (134, .iload 5, 2), (136, .iload_n 3, 1), (137, .if_icmp .eq 23, 3), (140, .aload_n 0, 1), (141, .iload 5, 2), (143, .iload_n 3, 1), (144, .invokevirtual 104, 3), (147, .aload_n 0, 1), (148, .aload_n 0, 1), (149, .getfield 100, 3), (152, .lneg, 1), (153, .lload_n 1, 1), (154, .invokestatic 96, 3), (157, .putfield 100, 3), (160, .aload_n 0, 1), (161, .aload_n 0, 1), (162, .getfield 100, 3), (165, .aload_n 0, 1), (166, .getfield 37, 3), (169, .bipush 15, 2), (171, .iload_n 3, 1), (172, .imul, 1), (173, .iload 4, 2), (175, .iadd, 1), (176, .laload, 1), (177, .lmul, 1), (178, .lload_n 1, 1), (179, .lrem, 1), (180, .putfield 100, 3), (183, .aload_n 0, 1), (184, .iload_n 3, 1), (185, .iload 4, 2), (187, .lload_n 1, 1), (188, .invokevirtual 108, 3), (191, .aload_n 0, 1), (192, .getfield 40, 3), (195, .iload_n 3, 1), (196, .iload 4, 2), (198, .iastore, 1), (199, .iinc 3 1, 3), (202, .iinc 4 1, 3), (205, .goto (-133), 3), (208, .iload_n 3, 1), (209, .ireturn, 1)]
def zdb_5 : List (ByteArray × List (Nat × Instr × Nat)) := [(cX7_isMeeting, zdl_135), (cX7_isRigid, zdl_136), (cX7_isSet, zdl_137), (cX7_isSort, zdl_138), (cX7_isWay, zdl_139), (cX7_isWhole, zdl_140), (cX7_joint, zdl_141), (cX7_lacks, zdl_142), (cX7_left, zdl_143), (cX7_many, zdl_144), (cX7_minorBy, zdl_145), (cX7_nextOrder, zdl_146), (cX7_oneShape, zdl_147), (cX7_ones, zdl_148), (cX7_part, zdl_149), (cX7_prepare, zdl_150), (cX7_putPair, zdl_151), (cX7_putRow, zdl_152), (cX7_putSet, zdl_153), (cX7_rank, zdl_154), (cX7_rankBy, zdl_155)]
set_option maxRecDepth 100000 in
theorem zdo_135 : zdl_135.all (fun e => decide (decode cX7_isMeeting e.1 = .ok e.2)) = true := by decide +kernel
set_option maxRecDepth 100000 in
theorem zdo_136 : zdl_136.all (fun e => decide (decode cX7_isRigid e.1 = .ok e.2)) = true := by decide +kernel
set_option maxRecDepth 100000 in
theorem zdo_137 : zdl_137.all (fun e => decide (decode cX7_isSet e.1 = .ok e.2)) = true := by decide +kernel
set_option maxRecDepth 100000 in
theorem zdo_138 : zdl_138.all (fun e => decide (decode cX7_isSort e.1 = .ok e.2)) = true := by decide +kernel
set_option maxRecDepth 100000 in
theorem zdo_139 : zdl_139.all (fun e => decide (decode cX7_isWay e.1 = .ok e.2)) = true := by decide +kernel
set_option maxRecDepth 100000 in
theorem zdo_140 : zdl_140.all (fun e => decide (decode cX7_isWhole e.1 = .ok e.2)) = true := by decide +kernel
set_option maxRecDepth 100000 in
theorem zdo_141 : zdl_141.all (fun e => decide (decode cX7_joint e.1 = .ok e.2)) = true := by decide +kernel
set_option maxRecDepth 100000 in
theorem zdo_142 : zdl_142.all (fun e => decide (decode cX7_lacks e.1 = .ok e.2)) = true := by decide +kernel
set_option maxRecDepth 100000 in
theorem zdo_143 : zdl_143.all (fun e => decide (decode cX7_left e.1 = .ok e.2)) = true := by decide +kernel
set_option maxRecDepth 100000 in
theorem zdo_144 : zdl_144.all (fun e => decide (decode cX7_many e.1 = .ok e.2)) = true := by decide +kernel
set_option maxRecDepth 100000 in
theorem zdo_145 : zdl_145.all (fun e => decide (decode cX7_minorBy e.1 = .ok e.2)) = true := by decide +kernel
set_option maxRecDepth 100000 in
theorem zdo_146 : zdl_146.all (fun e => decide (decode cX7_nextOrder e.1 = .ok e.2)) = true := by decide +kernel
set_option maxRecDepth 100000 in
theorem zdo_147 : zdl_147.all (fun e => decide (decode cX7_oneShape e.1 = .ok e.2)) = true := by decide +kernel
set_option maxRecDepth 100000 in
theorem zdo_148 : zdl_148.all (fun e => decide (decode cX7_ones e.1 = .ok e.2)) = true := by decide +kernel
set_option maxRecDepth 100000 in
theorem zdo_149 : zdl_149.all (fun e => decide (decode cX7_part e.1 = .ok e.2)) = true := by decide +kernel
set_option maxRecDepth 100000 in
theorem zdo_150 : zdl_150.all (fun e => decide (decode cX7_prepare e.1 = .ok e.2)) = true := by decide +kernel
set_option maxRecDepth 100000 in
theorem zdo_151 : zdl_151.all (fun e => decide (decode cX7_putPair e.1 = .ok e.2)) = true := by decide +kernel
set_option maxRecDepth 100000 in
theorem zdo_152 : zdl_152.all (fun e => decide (decode cX7_putRow e.1 = .ok e.2)) = true := by decide +kernel
set_option maxRecDepth 100000 in
theorem zdo_153 : zdl_153.all (fun e => decide (decode cX7_putSet e.1 = .ok e.2)) = true := by decide +kernel
set_option maxRecDepth 100000 in
theorem zdo_154 : zdl_154.all (fun e => decide (decode cX7_rank e.1 = .ok e.2)) = true := by decide +kernel
set_option maxRecDepth 100000 in
theorem zdo_155 : zdl_155.all (fun e => decide (decode cX7_rankBy e.1 = .ok e.2)) = true := by decide +kernel
theorem zdk_5 : ∀ q ∈ zdb_5, q.2.all (fun e => decide (decode q.1 e.1 = .ok e.2)) = true := by
  intro q hq
  simp only [zdb_5, List.mem_cons, List.not_mem_nil, or_false] at hq
  rcases hq with rfl | rfl | rfl | rfl | rfl | rfl | rfl | rfl | rfl | rfl | rfl | rfl | rfl | rfl | rfl | rfl | rfl | rfl | rfl | rfl | rfl
  · exact zdo_135
  · exact zdo_136
  · exact zdo_137
  · exact zdo_138
  · exact zdo_139
  · exact zdo_140
  · exact zdo_141
  · exact zdo_142
  · exact zdo_143
  · exact zdo_144
  · exact zdo_145
  · exact zdo_146
  · exact zdo_147
  · exact zdo_148
  · exact zdo_149
  · exact zdo_150
  · exact zdo_151
  · exact zdo_152
  · exact zdo_153
  · exact zdo_154
  · exact zdo_155
end
section
def zdl_156 : List (Nat × Instr × Nat) := [(0, .aload_n 0, 1), (1, .iload_n 1, 1), (2, .invokevirtual 154, 3), (5, .aload_n 0, 1), (6, .getfield 26, 3), (9, .sipush 4096, 3), (12, .iload_n 1, 1), (13, .imul, 1), (14, .iload_n 2, 1), (15, .iadd, 1), (16, .iaload, 1), (17, .ireturn, 1)]
def zdl_157 : List (Nat × Instr × Nat) := [(0, .aload_n 0, 1), (1, .getfield 87, 3), (4, .ifCond .ne 5, 3), (7, .iconst 0, 1), (8, .ireturn, 1), (9, .aload_n 0, 1), (10, .ldc2_w 115, 3), (13, .invokevirtual 117, 3), (16, .istore_n 1, 1), (17, .aload_n 0, 1), (18, .ldc2_w 121, 3), (21, .invokevirtual 117, 3), (24, .istore_n 2, 1), (25, .iload_n 1, 1), (26, .iload_n 2, 1), (27, .if_icmp .le 7, 3), (30, .iload_n 1, 1), (31, .goto 4, 3), (34, .iload_n 2, 1), (35, .ireturn, 1)]
def zdl_158 : List (Nat × Instr × Nat) := [(0, .aload_n 0, 1), (1, .iload_n 1, 1), (2, .invokevirtual 158, 3), (5, .ifCond .ne 8, 3), (8, .bipush (-2), 2), (10, .goto 16, 3), (13, .aload_n 0, 1), (14, .iload_n 1, 1), (15, .invokevirtual 178, 3), (18, .ifCond .eq 7, 3), (21, .iconst 1, 1), (22, .goto 4, 3), (25, .iconst 0, 1), (26, .ireturn, 1)]
def zdl_159 : List (Nat × Instr × Nat) := [(0, .iload_n 1, 1), (1, .iconst 0, 1), (2, .aload_n 0, 1), (3, .getfield 74, 3), (6, .iconst 1, 1), (7, .isub, 1), (8, .invokestatic 70, 3), (11, .ifCond .eq 12, 3), (14, .iload_n 2, 1), (15, .iconst (-1), 1), (16, .iconst 1, 1), (17, .invokestatic 70, 3), (20, .ifCond .ne 6, 3), (23, .bipush (-2), 2), (25, .ireturn, 1), (26, .aload_n 0, 1), (27, .getfield 23, 3), (30, .iload_n 1, 1), (31, .iaload, 1), (32, .iconst 1, 1), (33, .iadd, 1), (34, .istore_n 3, 1), (35, .aload_n 0, 1), (36, .getfield 23, 3), (39, .iload_n 1, 1), (40, .iload_n 2, 1), (41, .iastore, 1), (42, .iload_n 3, 1), (43, .ireturn, 1)]
def zdl_160 : List (Nat × Instr × Nat) := [(0, .aload_n 0, 1), (1, .iload_n 1, 1), (2, .invokevirtual 158, 3), (5, .ifCond .eq 11, 3), (8, .aload_n 0, 1), (9, .iload_n 1, 1), (10, .invokevirtual 185, 3), (13, .goto 5, 3), (16, .bipush (-2), 2), (18, .ireturn, 1)]
def zdl_161 : List (Nat × Instr × Nat) := [(0, .iconst 0, 1), (1, .istore_n 2, 1), (2, .iconst 0, 1), (3, .istore_n 3, 1), (4, .iload_n 3, 1), (5, .aload_n 0, 1), (6, .getfield 74, 3), (9, .if_icmp .ge 46, 3), (12, .aload_n 0, 1), (13, .iload_n 1, 1), (14, .aload_n 0, 1), (15, .invokevirtual 151, 3), (18, .iconst 1, 1), (19, .iload_n 3, 1), (20, .ishl, 1), (21, .iconst (-1), 1), (22, .ixor, 1), (23, .iand, 1), (24, .invokevirtual 164, 3), (27, .aload_n 0, 1), (28, .iload_n 1, 1), (29, .aload_n 0, 1), (30, .invokevirtual 151, 3), (33, .invokevirtual 164, 3), (36, .if_icmp .ne 11, 3), (39, .iload_n 2, 1), (40, .iconst 1, 1), (41, .iload_n 3, 1), (42, .ishl, 1), (43, .ior, 1), (44, .goto 4, 3), (47, .iload_n 2, 1), (48, .istore_n 2, 1), (49, .iinc 3 1, 3), (52, .goto (-48), 3), (55, .iload_n 2, 1), (56, .ireturn, 1)]
def zdl_162 : List (Nat × Instr × Nat) := [(0, .aload_n 0, 1), (1, .iload_n 1, 1), (2, .invokevirtual 158, 3), (5, .ifCond .eq 39, 3), (8, .iload_n 1, 1), (9, .iconst 2, 1), (10, .if_icmp .eq 34, 3), (13, .aload_n 0, 1), (14, .iload_n 2, 1), (15, .invokevirtual 161, 3), (18, .ifCond .eq 26, 3), (21, .aload_n 0, 1), (22, .iload_n 1, 1), (23, .iload_n 2, 1), (24, .invokevirtual 191, 3), (27, .ifCond .eq 17, 3), (30, .iload_n 3, 1), (31, .iconst 0, 1), (32, .aload_n 0, 1), (33, .getfield 74, 3), (36, .iconst 1, 1), (37, .isub, 1), (38, .invokestatic 70, 3), (41, .ifCond .ne 6, 3), (44, .bipush (-2), 2), (46, .ireturn, 1), (47, .aload_n 0, 1), (48, .iload_n 1, 1), (49, .iload_n 2, 1), (50, .invokevirtual 229, 3), (53, .aload_n 0, 1), (54, .getfield 55, 3), (57, .iload_n 3, 1), (58, .laload, 1), (59, .l2i, 1), (60, .iconst 1, 1), (61, .iadd, 1), (62, .ireturn, 1)]
def zdl_163 : List (Nat × Instr × Nat) := [(0, .iconst 0, 1), (1, .istore_n 3, 1), (2, .iload_n 3, 1), (3, .bipush 15, 2), (5, .if_icmp .ge 57, 3), (8, .aload_n 0, 1), (9, .getfield 37, 3), (12, .bipush 15, 2), (14, .iload_n 1, 1), (15, .imul, 1), (16, .iload_n 3, 1), (17, .iadd, 1), (18, .laload, 1), (19, .lstore 4, 2), (21, .aload_n 0, 1), (22, .getfield 37, 3), (25, .bipush 15, 2), (27, .iload_n 1, 1), (28, .imul, 1), (29, .iload_n 3, 1), (30, .iadd, 1), (31, .aload_n 0, 1), (32, .getfield 37, 3), (35, .bipush 15, 2), (37, .iload_n 2, 1), (38, .imul, 1), (39, .iload_n 3, 1), (40, .iadd, 1), (41, .laload, 1), (42, .lastore, 1), (43, .aload_n 0, 1), (44, .getfield 37, 3), (47, .bipush 15, 2), (49, .iload_n 2, 1), (50, .imul, 1), (51, .iload_n 3, 1), (52, .iadd, 1), (53, .lload 4, 2), (55, .lastore, 1), (56, .iinc 3 1, 3), (59, .goto (-57), 3), (62, .return_, 1)]
def zdl_164 : List (Nat × Instr × Nat) := [(0, .iload_n 1, 1), (1, .iload_n 0, 1), (2, .if_icmp .le 7, 3), (5, .iconst 0, 1), (6, .goto 25, 3), (9, .iload_n 0, 1), (10, .iload_n 1, 1), (11, .isub, 1), (12, .iconst 2, 1), (13, .irem, 1), (14, .ifCond .ne 11, 3), (17, .iload_n 0, 1), (18, .iload_n 1, 1), (19, .invokestatic 209, 3), (22, .goto 9, 3), (25, .iload_n 0, 1), (26, .iload_n 1, 1), (27, .invokestatic 209, 3), (30, .ineg, 1), (31, .ireturn, 1)]
def zdl_165 : List (Nat × Instr × Nat) := [(0, .lload_n 2, 1), (1, .lload_n 0, 1), (2, .lsub, 1), (3, .ldc2_w 121, 3), (6, .invokestatic 96, 3), (9, .ldc2_w 115, 3), (12, .ldc2_w 121, 3), (15, .invokestatic 96, 3), (18, .ldc2_w 121, 3), (21, .invokestatic 112, 3), (24, .lmul, 1), (25, .ldc2_w 121, 3), (28, .lrem, 1), (29, .lstore 4, 2), (31, .lload_n 0, 1), (32, .ldc2_w 115, 3), (35, .lload 4, 2), (37, .lmul, 1), (38, .ladd, 1), (39, .lstore 6, 2), (41, .ldc2_w 218, 3), (44, .lstore 8, 2), (46, .lload 6, 2), (48, .lload 8, 2), (50, .ldc2_w 94, 3), (53, .ldiv, 1), (54, .lcmp, 1), (55, .ifCond .le 11, 3), (58, .lload 6, 2), (60, .lload 8, 2), (62, .lsub, 1), (63, .goto 5, 3), (66, .lload 6, 2), (68, .lreturn, 1)]
def zdl_166 : List (Nat × Instr × Nat) := [(0, .aload_n 0, 1), (1, .iload_n 1, 1), (2, .invokevirtual 158, 3), (5, .ifCond .eq 13, 3), (8, .iload_n 2, 1), (9, .iconst 0, 1), (10, .bipush 6, 2), (12, .invokestatic 70, 3), (15, .ifCond .ne 6, 3), (18, .bipush (-2), 2), (20, .ireturn, 1), (21, .iload_n 2, 1), (22, .iconst 4, 1), (23, .if_icmp .ne 10, 3), (26, .aload_n 0, 1), (27, .iload_n 1, 1), (28, .iload_n 3, 1), (29, .invokevirtual 203, 3), (32, .ireturn, 1), (33, .iconst 0, 1), (34, .istore 4, 2), (36, .iconst (-1), 1), (37, .istore 5, 2), (39, .iconst 0, 1), (40, .istore 6, 2), (42, .iload 6, 2), (44, .aload_n 0, 1), (45, .invokevirtual 151, 3), (48, .if_icmp .gt 43, 3), (51, .iload 5, 2), (53, .ifCond .ge 38, 3), (56, .aload_n 0, 1), (57, .iload_n 1, 1), (58, .iload_n 2, 1), (59, .iload 6, 2), (61, .invokevirtual 206, 3), (64, .ifCond .eq 21, 3), (67, .iload 4, 2), (69, .iload_n 3, 1), (70, .if_icmp .ne 8, 3), (73, .iload 6, 2), (75, .goto 5, 3), (78, .iload 5, 2), (80, .istore 5, 2), (82, .iinc 4 1, 3), (85, .iinc 6 1, 3), (88, .goto (-46), 3), (91, .iload 5, 2), (93, .ireturn, 1)]
def zdl_167 : List (Nat × Instr × Nat) := [(0, .aload_n 0, 1), (1, .iload_n 1, 1), (2, .iload_n 2, 1), (3, .invokevirtual 130, 3), (6, .aload_n 0, 1), (7, .invokevirtual 133, 3), (10, .istore_n 3, 1), (11, .aload_n 0, 1), (12, .iload_n 3, 1), (13, .ifCond .eq 10, 3), (16, .aload_n 0, 1), (17, .getfield 123, 3), (20, .goto 9, 3), (23, .aload_n 0, 1), (24, .getfield 123, 3), (27, .iconst 1, 1), (28, .isub, 1), (29, .putfield 123, 3), (32, .iload_n 3, 1), (33, .ireturn, 1)]
def zdl_168 : List (Nat × Instr × Nat) := [(0, .aload_n 0, 1), (1, .getfield 74, 3), (4, .ifCond .ne 5, 3), (7, .iconst (-1), 1), (8, .ireturn, 1), (9, .aload_n 0, 1), (10, .dup, 1), (11, .getfield 74, 3), (14, .iconst 1, 1), (15, .isub, 1), (16, .putfield 74, 3), (19, .aload_n 0, 1), (20, .invokevirtual 67, 3), (23, .aload_n 0, 1), (24, .getfield 74, 3), (27, .ireturn, 1)]
def zdb_6 : List (ByteArray × List (Nat × Instr × Nat)) := [(cX7_rankOf, zdl_156), (cX7_rankOfRows, zdl_157), (cX7_rigid, zdl_158), (cX7_sign, zdl_159), (cX7_spare, zdl_160), (cX7_spareOf, zdl_161), (cX7_stressed, zdl_162), (cX7_swapRows, zdl_163), (cX7_term, zdl_164), (cX7_together, zdl_165), (cX7_told, zdl_166), (cX7_tryPair, zdl_167), (cX7_unbar, zdl_168)]
set_option maxRecDepth 100000 in
theorem zdo_156 : zdl_156.all (fun e => decide (decode cX7_rankOf e.1 = .ok e.2)) = true := by decide +kernel
set_option maxRecDepth 100000 in
theorem zdo_157 : zdl_157.all (fun e => decide (decode cX7_rankOfRows e.1 = .ok e.2)) = true := by decide +kernel
set_option maxRecDepth 100000 in
theorem zdo_158 : zdl_158.all (fun e => decide (decode cX7_rigid e.1 = .ok e.2)) = true := by decide +kernel
set_option maxRecDepth 100000 in
theorem zdo_159 : zdl_159.all (fun e => decide (decode cX7_sign e.1 = .ok e.2)) = true := by decide +kernel
set_option maxRecDepth 100000 in
theorem zdo_160 : zdl_160.all (fun e => decide (decode cX7_spare e.1 = .ok e.2)) = true := by decide +kernel
set_option maxRecDepth 100000 in
theorem zdo_161 : zdl_161.all (fun e => decide (decode cX7_spareOf e.1 = .ok e.2)) = true := by decide +kernel
set_option maxRecDepth 100000 in
theorem zdo_162 : zdl_162.all (fun e => decide (decode cX7_stressed e.1 = .ok e.2)) = true := by decide +kernel
set_option maxRecDepth 100000 in
theorem zdo_163 : zdl_163.all (fun e => decide (decode cX7_swapRows e.1 = .ok e.2)) = true := by decide +kernel
set_option maxRecDepth 100000 in
theorem zdo_164 : zdl_164.all (fun e => decide (decode cX7_term e.1 = .ok e.2)) = true := by decide +kernel
set_option maxRecDepth 100000 in
theorem zdo_165 : zdl_165.all (fun e => decide (decode cX7_together e.1 = .ok e.2)) = true := by decide +kernel
set_option maxRecDepth 100000 in
theorem zdo_166 : zdl_166.all (fun e => decide (decode cX7_told e.1 = .ok e.2)) = true := by decide +kernel
set_option maxRecDepth 100000 in
theorem zdo_167 : zdl_167.all (fun e => decide (decode cX7_tryPair e.1 = .ok e.2)) = true := by decide +kernel
set_option maxRecDepth 100000 in
theorem zdo_168 : zdl_168.all (fun e => decide (decode cX7_unbar e.1 = .ok e.2)) = true := by decide +kernel
theorem zdk_6 : ∀ q ∈ zdb_6, q.2.all (fun e => decide (decode q.1 e.1 = .ok e.2)) = true := by
  intro q hq
  simp only [zdb_6, List.mem_cons, List.not_mem_nil, or_false] at hq
  rcases hq with rfl | rfl | rfl | rfl | rfl | rfl | rfl | rfl | rfl | rfl | rfl | rfl | rfl
  · exact zdo_156
  · exact zdo_157
  · exact zdo_158
  · exact zdo_159
  · exact zdo_160
  · exact zdo_161
  · exact zdo_162
  · exact zdo_163
  · exact zdo_164
  · exact zdo_165
  · exact zdo_166
  · exact zdo_167
  · exact zdo_168
end
section
def zdl_169_0 : List (Nat × Instr × Nat) := [(0, .new 7, 3), (3, .dup, 1), (4, .invokespecial 9, 3), (7, .astore_n 1, 1), (8, .new 10, 3), (11, .dup, 1), (12, .invokespecial 12, 3), (15, .astore_n 2, 1), (16, .iconst 0, 1), (17, .istore_n 3, 1), (18, .iload_n 3, 1), (19, .aload_n 0, 1), (20, .arraylength, 1), (21, .iconst 5, 1), (22, .isub, 1), (23, .if_icmp .gt 805, 3), (26, .aload_n 0, 1), (27, .iload_n 3, 1), (28, .iaload, 1), (29, .bipush 31, 2), (31, .iand, 1), (32, .tableswitch 790 0 21 #[104, 127, 180, 213, 226, 259, 282, 315, 348, 381, 414, 467, 490, 513, 536, 569, 612, 655, 688, 731, 754, 777], 104), (136, .aload_n 1, 1), (137, .aload_n 0, 1), (138, .iload_n 3, 1), (139, .iconst 1, 1), (140, .iadd, 1), (141, .iaload, 1), (142, .invokevirtual 13, 3), (145, .aload_n 2, 1), (146, .aload_n 0, 1), (147, .iload_n 3, 1), (148, .iconst 1, 1), (149, .iadd, 1), (150, .iaload, 1), (151, .invokevirtual 17, 3), (154, .if_icmp .eq 668, 3), (157, .iconst 0, 1), (158, .ireturn, 1), (159, .aload_n 1, 1), (160, .aload_n 0, 1), (161, .iload_n 3, 1), (162, .iconst 1, 1), (163, .iadd, 1), (164, .iaload, 1), (165, .aload_n 0, 1), (166, .iload_n 3, 1), (167, .iconst 2, 1), (168, .iadd, 1), (169, .iaload, 1), (170, .aload_n 0, 1), (171, .iload_n 3, 1), (172, .iconst 3, 1), (173, .iadd, 1), (174, .iaload, 1), (175, .aload_n 0, 1), (176, .iload_n 3, 1), (177, .iconst 4, 1), (178, .iadd, 1), (179, .iaload, 1)]
def zdl_169_1 : List (Nat × Instr × Nat) := [(180, .invokevirtual 18, 3), (183, .aload_n 2, 1), (184, .aload_n 0, 1), (185, .iload_n 3, 1), (186, .iconst 1, 1), (187, .iadd, 1), (188, .iaload, 1), (189, .aload_n 0, 1), (190, .iload_n 3, 1), (191, .iconst 2, 1), (192, .iadd, 1), (193, .iaload, 1), (194, .aload_n 0, 1), (195, .iload_n 3, 1), (196, .iconst 3, 1), (197, .iadd, 1), (198, .iaload, 1), (199, .aload_n 0, 1), (200, .iload_n 3, 1), (201, .iconst 4, 1), (202, .iadd, 1), (203, .iaload, 1), (204, .invokevirtual 22, 3), (207, .if_icmp .eq 615, 3), (210, .iconst 0, 1), (211, .ireturn, 1), (212, .aload_n 1, 1), (213, .aload_n 0, 1), (214, .iload_n 3, 1), (215, .iconst 1, 1), (216, .iadd, 1), (217, .iaload, 1), (218, .aload_n 0, 1), (219, .iload_n 3, 1), (220, .iconst 2, 1), (221, .iadd, 1), (222, .iaload, 1), (223, .invokevirtual 23, 3), (226, .aload_n 2, 1), (227, .aload_n 0, 1), (228, .iload_n 3, 1), (229, .iconst 1, 1), (230, .iadd, 1), (231, .iaload, 1), (232, .aload_n 0, 1), (233, .iload_n 3, 1), (234, .iconst 2, 1), (235, .iadd, 1), (236, .iaload, 1), (237, .invokevirtual 27, 3), (240, .if_icmp .eq 582, 3), (243, .iconst 0, 1), (244, .ireturn, 1), (245, .aload_n 1, 1), (246, .invokevirtual 28, 3), (249, .aload_n 2, 1), (250, .invokevirtual 32, 3), (253, .if_icmp .eq 569, 3), (256, .iconst 0, 1), (257, .ireturn, 1)]
def zdl_169_2 : List (Nat × Instr × Nat) := [(258, .aload_n 1, 1), (259, .aload_n 0, 1), (260, .iload_n 3, 1), (261, .iconst 1, 1), (262, .iadd, 1), (263, .iaload, 1), (264, .aload_n 0, 1), (265, .iload_n 3, 1), (266, .iconst 2, 1), (267, .iadd, 1), (268, .iaload, 1), (269, .invokevirtual 33, 3), (272, .aload_n 2, 1), (273, .aload_n 0, 1), (274, .iload_n 3, 1), (275, .iconst 1, 1), (276, .iadd, 1), (277, .iaload, 1), (278, .aload_n 0, 1), (279, .iload_n 3, 1), (280, .iconst 2, 1), (281, .iadd, 1), (282, .iaload, 1), (283, .invokevirtual 36, 3), (286, .if_icmp .eq 536, 3), (289, .iconst 0, 1), (290, .ireturn, 1), (291, .aload_n 1, 1), (292, .aload_n 0, 1), (293, .iload_n 3, 1), (294, .iconst 1, 1), (295, .iadd, 1), (296, .iaload, 1), (297, .invokevirtual 37, 3), (300, .aload_n 2, 1), (301, .aload_n 0, 1), (302, .iload_n 3, 1), (303, .iconst 1, 1), (304, .iadd, 1), (305, .iaload, 1), (306, .invokevirtual 40, 3), (309, .if_icmp .eq 513, 3), (312, .iconst 0, 1), (313, .ireturn, 1), (314, .aload_n 1, 1), (315, .aload_n 0, 1), (316, .iload_n 3, 1), (317, .iconst 1, 1), (318, .iadd, 1), (319, .iaload, 1), (320, .aload_n 0, 1), (321, .iload_n 3, 1), (322, .iconst 2, 1), (323, .iadd, 1), (324, .iaload, 1), (325, .invokevirtual 41, 3), (328, .aload_n 2, 1), (329, .aload_n 0, 1), (330, .iload_n 3, 1), (331, .iconst 1, 1)]
def zdl_169_3 : List (Nat × Instr × Nat) := [(332, .iadd, 1), (333, .iaload, 1), (334, .aload_n 0, 1), (335, .iload_n 3, 1), (336, .iconst 2, 1), (337, .iadd, 1), (338, .iaload, 1), (339, .invokevirtual 44, 3), (342, .if_icmp .eq 480, 3), (345, .iconst 0, 1), (346, .ireturn, 1), (347, .aload_n 1, 1), (348, .aload_n 0, 1), (349, .iload_n 3, 1), (350, .iconst 1, 1), (351, .iadd, 1), (352, .iaload, 1), (353, .aload_n 0, 1), (354, .iload_n 3, 1), (355, .iconst 2, 1), (356, .iadd, 1), (357, .iaload, 1), (358, .invokevirtual 45, 3), (361, .aload_n 2, 1), (362, .aload_n 0, 1), (363, .iload_n 3, 1), (364, .iconst 1, 1), (365, .iadd, 1), (366, .iaload, 1), (367, .aload_n 0, 1), (368, .iload_n 3, 1), (369, .iconst 2, 1), (370, .iadd, 1), (371, .iaload, 1), (372, .invokevirtual 48, 3), (375, .if_icmp .eq 447, 3), (378, .iconst 0, 1), (379, .ireturn, 1), (380, .aload_n 1, 1), (381, .aload_n 0, 1), (382, .iload_n 3, 1), (383, .iconst 1, 1), (384, .iadd, 1), (385, .iaload, 1), (386, .aload_n 0, 1), (387, .iload_n 3, 1), (388, .iconst 2, 1), (389, .iadd, 1), (390, .iaload, 1), (391, .invokevirtual 49, 3), (394, .aload_n 2, 1), (395, .aload_n 0, 1), (396, .iload_n 3, 1), (397, .iconst 1, 1), (398, .iadd, 1), (399, .iaload, 1), (400, .aload_n 0, 1), (401, .iload_n 3, 1), (402, .iconst 2, 1), (403, .iadd, 1)]
def zdl_169_4 : List (Nat × Instr × Nat) := [(404, .iaload, 1), (405, .invokevirtual 52, 3), (408, .if_icmp .eq 414, 3), (411, .iconst 0, 1), (412, .ireturn, 1), (413, .aload_n 1, 1), (414, .aload_n 0, 1), (415, .iload_n 3, 1), (416, .iconst 1, 1), (417, .iadd, 1), (418, .iaload, 1), (419, .aload_n 0, 1), (420, .iload_n 3, 1), (421, .iconst 2, 1), (422, .iadd, 1), (423, .iaload, 1), (424, .invokevirtual 53, 3), (427, .aload_n 2, 1), (428, .aload_n 0, 1), (429, .iload_n 3, 1), (430, .iconst 1, 1), (431, .iadd, 1), (432, .iaload, 1), (433, .aload_n 0, 1), (434, .iload_n 3, 1), (435, .iconst 2, 1), (436, .iadd, 1), (437, .iaload, 1), (438, .invokevirtual 56, 3), (441, .if_icmp .eq 381, 3), (444, .iconst 0, 1), (445, .ireturn, 1), (446, .aload_n 1, 1), (447, .aload_n 0, 1), (448, .iload_n 3, 1), (449, .iconst 1, 1), (450, .iadd, 1), (451, .iaload, 1), (452, .aload_n 0, 1), (453, .iload_n 3, 1), (454, .iconst 2, 1), (455, .iadd, 1), (456, .iaload, 1), (457, .aload_n 0, 1), (458, .iload_n 3, 1), (459, .iconst 3, 1), (460, .iadd, 1), (461, .iaload, 1), (462, .aload_n 0, 1), (463, .iload_n 3, 1), (464, .iconst 4, 1), (465, .iadd, 1), (466, .iaload, 1), (467, .invokevirtual 57, 3), (470, .aload_n 2, 1), (471, .aload_n 0, 1), (472, .iload_n 3, 1), (473, .iconst 1, 1), (474, .iadd, 1), (475, .iaload, 1)]
def zdl_169_5 : List (Nat × Instr × Nat) := [(476, .aload_n 0, 1), (477, .iload_n 3, 1), (478, .iconst 2, 1), (479, .iadd, 1), (480, .iaload, 1), (481, .aload_n 0, 1), (482, .iload_n 3, 1), (483, .iconst 3, 1), (484, .iadd, 1), (485, .iaload, 1), (486, .aload_n 0, 1), (487, .iload_n 3, 1), (488, .iconst 4, 1), (489, .iadd, 1), (490, .iaload, 1), (491, .invokevirtual 60, 3), (494, .if_icmp .eq 328, 3), (497, .iconst 0, 1), (498, .ireturn, 1), (499, .aload_n 1, 1), (500, .aload_n 0, 1), (501, .iload_n 3, 1), (502, .iconst 1, 1), (503, .iadd, 1), (504, .iaload, 1), (505, .invokevirtual 61, 3), (508, .aload_n 2, 1), (509, .aload_n 0, 1), (510, .iload_n 3, 1), (511, .iconst 1, 1), (512, .iadd, 1), (513, .iaload, 1), (514, .invokevirtual 64, 3), (517, .if_icmp .eq 305, 3), (520, .iconst 0, 1), (521, .ireturn, 1), (522, .aload_n 1, 1), (523, .aload_n 0, 1), (524, .iload_n 3, 1), (525, .iconst 1, 1), (526, .iadd, 1), (527, .iaload, 1), (528, .invokevirtual 65, 3), (531, .aload_n 2, 1), (532, .aload_n 0, 1), (533, .iload_n 3, 1), (534, .iconst 1, 1), (535, .iadd, 1), (536, .iaload, 1), (537, .invokevirtual 68, 3), (540, .if_icmp .eq 282, 3), (543, .iconst 0, 1), (544, .ireturn, 1), (545, .aload_n 1, 1), (546, .aload_n 0, 1), (547, .iload_n 3, 1), (548, .iconst 1, 1), (549, .iadd, 1), (550, .iaload, 1), (551, .invokevirtual 69, 3)]
def zdl_169_6 : List (Nat × Instr × Nat) := [(554, .aload_n 2, 1), (555, .aload_n 0, 1), (556, .iload_n 3, 1), (557, .iconst 1, 1), (558, .iadd, 1), (559, .iaload, 1), (560, .invokevirtual 72, 3), (563, .if_icmp .eq 259, 3), (566, .iconst 0, 1), (567, .ireturn, 1), (568, .aload_n 1, 1), (569, .aload_n 0, 1), (570, .iload_n 3, 1), (571, .iconst 1, 1), (572, .iadd, 1), (573, .iaload, 1), (574, .aload_n 0, 1), (575, .iload_n 3, 1), (576, .iconst 2, 1), (577, .iadd, 1), (578, .iaload, 1), (579, .invokevirtual 73, 3), (582, .aload_n 2, 1), (583, .aload_n 0, 1), (584, .iload_n 3, 1), (585, .iconst 1, 1), (586, .iadd, 1), (587, .iaload, 1), (588, .aload_n 0, 1), (589, .iload_n 3, 1), (590, .iconst 2, 1), (591, .iadd, 1), (592, .iaload, 1), (593, .invokevirtual 76, 3), (596, .if_icmp .eq 226, 3), (599, .iconst 0, 1), (600, .ireturn, 1), (601, .aload_n 1, 1), (602, .aload_n 0, 1), (603, .iload_n 3, 1), (604, .iconst 1, 1), (605, .iadd, 1), (606, .iaload, 1), (607, .aload_n 0, 1), (608, .iload_n 3, 1), (609, .iconst 2, 1), (610, .iadd, 1), (611, .iaload, 1), (612, .aload_n 0, 1), (613, .iload_n 3, 1), (614, .iconst 3, 1), (615, .iadd, 1), (616, .iaload, 1), (617, .invokevirtual 77, 3), (620, .aload_n 2, 1), (621, .aload_n 0, 1), (622, .iload_n 3, 1), (623, .iconst 1, 1), (624, .iadd, 1), (625, .iaload, 1)]
def zdl_169_7 : List (Nat × Instr × Nat) := [(626, .aload_n 0, 1), (627, .iload_n 3, 1), (628, .iconst 2, 1), (629, .iadd, 1), (630, .iaload, 1), (631, .aload_n 0, 1), (632, .iload_n 3, 1), (633, .iconst 3, 1), (634, .iadd, 1), (635, .iaload, 1), (636, .invokevirtual 81, 3), (639, .if_icmp .eq 183, 3), (642, .iconst 0, 1), (643, .ireturn, 1), (644, .aload_n 1, 1), (645, .aload_n 0, 1), (646, .iload_n 3, 1), (647, .iconst 1, 1), (648, .iadd, 1), (649, .iaload, 1), (650, .aload_n 0, 1), (651, .iload_n 3, 1), (652, .iconst 2, 1), (653, .iadd, 1), (654, .iaload, 1), (655, .aload_n 0, 1), (656, .iload_n 3, 1), (657, .iconst 3, 1), (658, .iadd, 1), (659, .iaload, 1), (660, .invokevirtual 82, 3), (663, .aload_n 2, 1), (664, .aload_n 0, 1), (665, .iload_n 3, 1), (666, .iconst 1, 1), (667, .iadd, 1), (668, .iaload, 1), (669, .aload_n 0, 1), (670, .iload_n 3, 1), (671, .iconst 2, 1), (672, .iadd, 1), (673, .iaload, 1), (674, .aload_n 0, 1), (675, .iload_n 3, 1), (676, .iconst 3, 1), (677, .iadd, 1), (678, .iaload, 1), (679, .invokevirtual 85, 3), (682, .if_icmp .eq 140, 3), (685, .iconst 0, 1), (686, .ireturn, 1), (687, .aload_n 1, 1), (688, .aload_n 0, 1), (689, .iload_n 3, 1), (690, .iconst 1, 1), (691, .iadd, 1), (692, .iaload, 1), (693, .aload_n 0, 1), (694, .iload_n 3, 1), (695, .iconst 2, 1)]
def zdl_169_8 : List (Nat × Instr × Nat) := [(696, .iadd, 1), (697, .iaload, 1), (698, .invokevirtual 86, 3), (701, .aload_n 2, 1), (702, .aload_n 0, 1), (703, .iload_n 3, 1), (704, .iconst 1, 1), (705, .iadd, 1), (706, .iaload, 1), (707, .aload_n 0, 1), (708, .iload_n 3, 1), (709, .iconst 2, 1), (710, .iadd, 1), (711, .iaload, 1), (712, .invokevirtual 89, 3), (715, .if_icmp .eq 107, 3), (718, .iconst 0, 1), (719, .ireturn, 1), (720, .aload_n 1, 1), (721, .aload_n 0, 1), (722, .iload_n 3, 1), (723, .iconst 1, 1), (724, .iadd, 1), (725, .iaload, 1), (726, .aload_n 0, 1), (727, .iload_n 3, 1), (728, .iconst 2, 1), (729, .iadd, 1), (730, .iaload, 1), (731, .aload_n 0, 1), (732, .iload_n 3, 1), (733, .iconst 3, 1), (734, .iadd, 1), (735, .iaload, 1), (736, .invokevirtual 90, 3), (739, .aload_n 2, 1), (740, .aload_n 0, 1), (741, .iload_n 3, 1), (742, .iconst 1, 1), (743, .iadd, 1), (744, .iaload, 1), (745, .aload_n 0, 1), (746, .iload_n 3, 1), (747, .iconst 2, 1), (748, .iadd, 1), (749, .iaload, 1), (750, .aload_n 0, 1), (751, .iload_n 3, 1), (752, .iconst 3, 1), (753, .iadd, 1), (754, .iaload, 1), (755, .invokevirtual 93, 3), (758, .if_icmp .eq 64, 3), (761, .iconst 0, 1), (762, .ireturn, 1), (763, .aload_n 1, 1), (764, .aload_n 0, 1), (765, .iload_n 3, 1), (766, .iconst 1, 1), (767, .iadd, 1)]
def zdl_169_9 : List (Nat × Instr × Nat) := [(768, .iaload, 1), (769, .invokevirtual 94, 3), (772, .aload_n 2, 1), (773, .aload_n 0, 1), (774, .iload_n 3, 1), (775, .iconst 1, 1), (776, .iadd, 1), (777, .iaload, 1), (778, .invokevirtual 97, 3), (781, .if_icmp .eq 41, 3), (784, .iconst 0, 1), (785, .ireturn, 1), (786, .aload_n 1, 1), (787, .aload_n 0, 1), (788, .iload_n 3, 1), (789, .iconst 1, 1), (790, .iadd, 1), (791, .iaload, 1), (792, .invokevirtual 98, 3), (795, .aload_n 2, 1), (796, .aload_n 0, 1), (797, .iload_n 3, 1), (798, .iconst 1, 1), (799, .iadd, 1), (800, .iaload, 1), (801, .invokevirtual 101, 3), (804, .if_icmp .eq 18, 3), (807, .iconst 0, 1), (808, .ireturn, 1), (809, .aload_n 1, 1), (810, .invokevirtual 102, 3), (813, .aload_n 2, 1), (814, .invokevirtual 105, 3), (817, .if_icmp .eq 5, 3), (820, .iconst 0, 1), (821, .ireturn, 1), (822, .iinc 3 5, 3), (825, .goto (-807), 3), (828, .iconst 1, 1), (829, .ireturn, 1)]
def zdl_169 : List (Nat × Instr × Nat) := zdl_169_0 ++ (zdl_169_1 ++ (zdl_169_2 ++ (zdl_169_3 ++ (zdl_169_4 ++ (zdl_169_5 ++ (zdl_169_6 ++ (zdl_169_7 ++ (zdl_169_8 ++ (zdl_169_9)))))))))
def zdb_7 : List (ByteArray × List (Nat × Instr × Nat)) := [(cL_law, zdl_169)]
set_option maxRecDepth 100000 in
theorem zdo_169_0 : zdl_169_0.all (fun e => decide (decode cL_law e.1 = .ok e.2)) = true := by decide +kernel
set_option maxRecDepth 100000 in
theorem zdo_169_1 : zdl_169_1.all (fun e => decide (decode cL_law e.1 = .ok e.2)) = true := by decide +kernel
set_option maxRecDepth 100000 in
theorem zdo_169_2 : zdl_169_2.all (fun e => decide (decode cL_law e.1 = .ok e.2)) = true := by decide +kernel
set_option maxRecDepth 100000 in
theorem zdo_169_3 : zdl_169_3.all (fun e => decide (decode cL_law e.1 = .ok e.2)) = true := by decide +kernel
set_option maxRecDepth 100000 in
theorem zdo_169_4 : zdl_169_4.all (fun e => decide (decode cL_law e.1 = .ok e.2)) = true := by decide +kernel
set_option maxRecDepth 100000 in
theorem zdo_169_5 : zdl_169_5.all (fun e => decide (decode cL_law e.1 = .ok e.2)) = true := by decide +kernel
set_option maxRecDepth 100000 in
theorem zdo_169_6 : zdl_169_6.all (fun e => decide (decode cL_law e.1 = .ok e.2)) = true := by decide +kernel
set_option maxRecDepth 100000 in
theorem zdo_169_7 : zdl_169_7.all (fun e => decide (decode cL_law e.1 = .ok e.2)) = true := by decide +kernel
set_option maxRecDepth 100000 in
theorem zdo_169_8 : zdl_169_8.all (fun e => decide (decode cL_law e.1 = .ok e.2)) = true := by decide +kernel
set_option maxRecDepth 100000 in
theorem zdo_169_9 : zdl_169_9.all (fun e => decide (decode cL_law e.1 = .ok e.2)) = true := by decide +kernel
theorem zdo_169 : zdl_169.all (fun e => decide (decode cL_law e.1 = .ok e.2)) = true := by
  unfold zdl_169
  simp only [List.all_append, zdo_169_0, zdo_169_1, zdo_169_2, zdo_169_3, zdo_169_4, zdo_169_5, zdo_169_6, zdo_169_7, zdo_169_8, zdo_169_9, Bool.and_self]
theorem zdk_7 : ∀ q ∈ zdb_7, q.2.all (fun e => decide (decode q.1 e.1 = .ok e.2)) = true := by
  intro q hq
  simp only [zdb_7, List.mem_cons, List.not_mem_nil, or_false] at hq
  rcases hq with rfl
  · exact zdo_169
end
section
def zdb : List (ByteArray × List (Nat × Instr × Nat)) := zdb_0 ++ (zdb_1 ++ (zdb_2 ++ (zdb_3 ++ (zdb_4 ++ (zdb_5 ++ (zdb_6 ++ (zdb_7)))))))
theorem zdb_ok : ∀ q ∈ zdb, q.2.all (fun e => decide (decode q.1 e.1 = .ok e.2)) = true := by
  intro q hq
  simp only [zdb, List.mem_append] at hq
  rcases hq with h | h | h | h | h | h | h | h
  · exact zdk_0 q h
  · exact zdk_1 q h
  · exact zdk_2 q h
  · exact zdk_3 q h
  · exact zdk_4 q h
  · exact zdk_5 q h
  · exact zdk_6 q h
  · exact zdk_7 q h
set_option maxRecDepth 100000 in
theorem zdb_map : zMt.map (fun M => M.2.1) = zdb.map (fun q => q.1) := rfl
def zdec (mi pc : Nat) : Option (Instr × Nat) := match zdb[mi]? with
  | some q => q.2.lookup pc
  | none => none
theorem zlookup {α β : Type} [BEq α] [LawfulBEq α] {a : α} {x : β} : ∀ {l : List (α × β)}, l.lookup a = some x → (a, x) ∈ l
  | [], h => by cases h
  | (b, y) :: l, h => by
    rw [List.lookup_cons] at h
    split at h
    · rename_i hb
      simp only [beq_iff_eq] at hb
      subst hb
      cases h
      exact List.mem_cons_self
    · exact List.mem_cons_of_mem _ (zlookup h)
theorem zdec_ok {mi pc : Nat} {M : zMe} {x : Instr × Nat} (hM : zMt[mi]? = some M) (h : zdec mi pc = some x) : decode M.2.1 pc = .ok x := by
  unfold zdec at h
  split at h
  · rename_i q hq
    have h1 : (zMt.map (fun M => M.2.1))[mi]? = some M.2.1 := by rw [List.getElem?_map, hM]; rfl
    have h2 : (zdb.map (fun q => q.1))[mi]? = some q.1 := by rw [List.getElem?_map, hq]; rfl
    rw [zdb_map, h2] at h1
    have hb : q.1 = M.2.1 := Option.some.inj h1
    have h3 := List.all_eq_true.mp (zdb_ok q (List.mem_of_getElem? hq)) _ (zlookup h)
    rw [← hb]
    exact of_decide_eq_true h3
  · cases h
/-- the same run, by the tables -/
def zrunT : Nat → Nat → Nat → Nat → zL → List Value → zW → Option (Option Value × zW)
  | 0, _, _, _, _, _, _ => none
  | f + 1, d, mi, pc, L, st, w => match zMt[mi]? with
    | none => none
    | some (_, _, mL, ret, o, ini) => match zdec mi pc with
      | none => none
      | some (i, len) => match zend ret i len st with
        | some r => some (r, w)
        | none => match zA mL i len pc L st with
          | some (pc', L', st') => zrunT f d mi pc' L' st' w
          | none => match zH o ini d i len pc st w with
            | some (pc', st', w') => zrunT f d mi pc' L st' w'
            | none => match zcall o i len st w with
              | none => none
              | some (mj, as, r) => match d with
                | 0 => none
                | d' + 1 => match zMt[mj]? with
                  | none => none
                  | some (_, _, mL', _, _, _) => if (zen as).length ≤ mL' then (match zrunT f d' mj 0 (zin mL' as) [] w with
                    | none => none
                    | some (v, w1) => zrunT f (d' + 1) mi (pc + 3) L (v.toList ++ r) w1) else none
theorem zrunT_ok : ∀ (f d mi pc : Nat) (L : zL) (st : List Value) (w : zW) (x : Option Value × zW), zrunT f d mi pc L st w = some x → zrun f d mi pc L st w = some x
  | 0, d, mi, pc, L, st, w, x, h => by simp [zrunT] at h
  | f + 1, d, mi, pc, L, st, w, x, h => by
    unfold zrunT at h
    unfold zrun
    cases hM : zMt[mi]? with
    | none => rw [hM] at h; cases h
    | some M =>
      obtain ⟨y, b, mL, ret, o, ini⟩ := M
      rw [hM] at h
      dsimp only at h ⊢
      cases hd : zdec mi pc with
      | none => rw [hd] at h; cases h
      | some il =>
        obtain ⟨i, len⟩ := il
        rw [hd] at h
        rw [zdec_ok hM hd]
        dsimp only at h ⊢
        cases he : zend ret i len st with
        | some r' => rw [he] at h; exact h
        | none =>
          rw [he] at h
          dsimp only at h ⊢
          cases hA : zA mL i len pc L st with
          | some x =>
            obtain ⟨pc', L', st'⟩ := x
            rw [hA] at h
            exact zrunT_ok f _ _ _ _ _ _ _ h
          | none =>
            rw [hA] at h
            dsimp only at h ⊢
            cases hH : zH o ini d i len pc st w with
            | some x =>
              obtain ⟨pc', st', w2⟩ := x
              rw [hH] at h
              exact zrunT_ok f _ _ _ _ _ _ _ h
            | none =>
              rw [hH] at h
              dsimp only at h ⊢
              cases hc : zcall o i len st w with
              | none => rw [hc] at h; cases h
              | some x =>
                obtain ⟨mj, as, rr⟩ := x
                rw [hc] at h
                dsimp only at h ⊢
                cases d with
                | zero => cases h
                | succ d' =>
                  dsimp only at h ⊢
                  cases hM' : zMt[mj]? with
                  | none => rw [hM'] at h; cases h
                  | some M' =>
                    obtain ⟨y', b', mL', ret', o', ini'⟩ := M'
                    rw [hM'] at h
                    dsimp only at h ⊢
                    split at h
                    · rename_i hen
                      rw [if_pos hen]
                      cases hr : zrunT f d' mj 0 (zin mL' as) [] w with
                      | none => rw [hr] at h; cases h
                      | some x =>
                        obtain ⟨v, w2⟩ := x
                        rw [hr] at h
                        rw [zrunT_ok f _ _ _ _ _ _ _ hr]
                        exact zrunT_ok f _ _ _ _ _ _ _ h
                    · cases h
end
section
/-! walks by the tables, and the small methods of both sides (printed by wip/gen/leaf.py) -/
section ZT
variable {d mi pc len mL o : Nat} {L L' : zL} {st st' rr : List Value} {w w1 w' : zW} {r : Option Value} {y : MethodName} {b : ByteArray} {ret : Option FieldType} {ini : Bool} {i : Instr} {pc' tgt : Nat}
theorem zt (hd : zdec mi pc = some (i, len)) (hM : zMt[mi]? = some (y, b, mL, ret, o, ini)) (he : zend ret i len st = none) (ha : zA mL i len pc L st = some (pc', L', st')) (k : zev d mi pc' L' st' w r w') : zev d mi pc L st w r w' := zev_A hM (zdec_ok hM hd) he ha k
theorem zte {r' : Option Value} (hd : zdec mi pc = some (i, len)) (hM : zMt[mi]? = some (y, b, mL, ret, o, ini)) (he : zend ret i len st = some r') : zev d mi pc L st w r' w := zev_end hM (zdec_ok hM hd) he
theorem zt_ifT {c : Jvm.ClassFile.Cond} {off : Int} {x : Int32} (hd : zdec mi pc = some (.ifCond c off, 3)) (hM : zMt[mi]? = some (y, b, mL, ret, o, ini)) (ht : (pc : Int) + off = (tgt : Int)) (_hp : pc + 3 = pc') (hv : zcc c x 0 = true) (k : zev d mi tgt L rr w r w') : zev d mi pc L (.int x :: rr) w r w' := zev_if tgt hM (zdec_ok hM hd) ht (fun _ => k) (fun h => by rw [hv] at h; cases h)
theorem zt_ifF {c : Jvm.ClassFile.Cond} {off : Int} {x : Int32} (hd : zdec mi pc = some (.ifCond c off, 3)) (hM : zMt[mi]? = some (y, b, mL, ret, o, ini)) (ht : (pc : Int) + off = (tgt : Int)) (hp : pc + 3 = pc') (hv : zcc c x 0 = false) (k : zev d mi pc' L rr w r w') : zev d mi pc L (.int x :: rr) w r w' := zev_if tgt hM (zdec_ok hM hd) ht (fun h => by rw [hv] at h; cases h) (fun _ => hp ▸ k)
theorem zt_icT {c : Jvm.ClassFile.Cond} {off : Int} {x z : Int32} (hd : zdec mi pc = some (.if_icmp c off, 3)) (hM : zMt[mi]? = some (y, b, mL, ret, o, ini)) (ht : (pc : Int) + off = (tgt : Int)) (_hp : pc + 3 = pc') (hv : zcc c x z = true) (k : zev d mi tgt L rr w r w') : zev d mi pc L (.int z :: .int x :: rr) w r w' := zev_ic tgt hM (zdec_ok hM hd) ht (fun _ => k) (fun h => by rw [hv] at h; cases h)
theorem zt_icF {c : Jvm.ClassFile.Cond} {off : Int} {x z : Int32} (hd : zdec mi pc = some (.if_icmp c off, 3)) (hM : zMt[mi]? = some (y, b, mL, ret, o, ini)) (ht : (pc : Int) + off = (tgt : Int)) (hp : pc + 3 = pc') (hv : zcc c x z = false) (k : zev d mi pc' L rr w r w') : zev d mi pc L (.int z :: .int x :: rr) w r w' := zev_ic tgt hM (zdec_ok hM hd) ht (fun h => by rw [hv] at h; cases h) (fun _ => hp ▸ k)
theorem zt_get {idx a ci k : Nat} {fs : List Value} {cs : List Nat} {v : Value} (hd : zdec mi pc = some (.getfield idx, 3)) (hM : zMt[mi]? = some (y, b, mL, ret, o, ini)) (hf : zfl o idx = some (k, cs)) (hp : pc + 3 = pc') (ha : w.1 a = some (.inr (ci, fs))) (hc : ci ∈ cs) (hv : fs[k]? = some v) (kk : zev d mi pc' L (v :: rr) w r w') : zev d mi pc L (.ref a :: rr) w r w' := zev_get hM (zdec_ok hM hd) hf ha hc hv (hp ▸ kk)
theorem zt_V {idx k0 c0 m0 n bb ci kd mj : Nat} {fs as : List Value} {v : Option Value} (hd : zdec mi pc = some (.invokevirtual idx, 3)) (hM : zMt[mi]? = some (y, b, mL, ret, o, ini)) (hp : pc + 3 = pc') (hcl : zcl o idx = some (k0, c0, m0, n)) (hst : st.drop n = .ref bb :: rr) (h8 : zsum (st.drop (n + 1)) ≤ 8) (hb : w.1 bb = some (.inr (ci, fs))) (hv : zclv o idx ci = some (kd, ci, mj, n)) (hk : kd = 3 ∨ kd = 4 ∨ kd = 5) (has : .ref bb :: (st.take n).reverse = as) (hm : zmet d mj as w v w1) (k : zev (d + 1) mi pc' L (v.toList ++ rr) w1 r w') : zev (d + 1) mi pc L st w r w' := by
  subst hp
  subst has
  refine zev_call hM (zdec_ok hM hd) rfl rfl rfl ?_ hm k
  simp only [zcall, hcl, h8, hst, hb, hv, hk]
  simp
theorem zt_S {idx c0 n mj : Nat} {as : List Value} {v : Option Value} (hd : zdec mi pc = some (.invokestatic idx, 3)) (hM : zMt[mi]? = some (y, b, mL, ret, o, ini)) (hp : pc + 3 = pc') (hcl : zcl o idx = some (2, c0, mj, n)) (hn : n ≤ st.length) (h8 : zsum (st.drop n) ≤ 8) (has : (st.take n).reverse = as) (hm : zmet d mj as w v w1) (k : zev (d + 1) mi pc' L (v.toList ++ st.drop n) w1 r w') : zev (d + 1) mi pc L st w r w' := by
  subst hp
  subst has
  have hc : zcall o (.invokestatic idx) 3 st w = some (mj, (st.take n).reverse, st.drop n) := by
    simp only [zcall, hcl, hn, h8]
    simp
  exact zev_call hM (zdec_ok hM hd) rfl rfl ((zcall_ex hc).2.2 _ _ _ _ _ _) hc hm k
theorem zcF {c : Jvm.ClassFile.Cond} {x y : Int32} {v : Bool} (h : zcc c x y = v) : zcc c x y = v := h
end ZT
/-- bounds -/
theorem zlt {x y : Int32} (h : x < y) : zcc .lt x y = true := by simp [zcc, h]
theorem znlt {x y : Int32} (h : ¬ x < y) : zcc .lt x y = false := by simp [zcc, h]
theorem zge {x y : Int32} (h : y ≤ x) : zcc .ge x y = true := by simp [zcc, h]
theorem znge {x y : Int32} (h : ¬ y ≤ x) : zcc .ge x y = false := by simp [zcc, h]
theorem zgt {x y : Int32} (h : y < x) : zcc .gt x y = true := by simp [zcc, h]
theorem zngt {x y : Int32} (h : ¬ y < x) : zcc .gt x y = false := by simp [zcc, h]
theorem zle' {x y : Int32} (h : x ≤ y) : zcc .le x y = true := by simp [zcc, h]
theorem znle {x y : Int32} (h : ¬ x ≤ y) : zcc .le x y = false := by simp [zcc, h]
theorem zeq {x y : Int32} (h : x = y) : zcc .eq x y = true := by simp [zcc, h]
theorem zneq {x y : Int32} (h : ¬ x = y) : zcc .eq x y = false := by simp [zcc, h]
theorem zne {x y : Int32} (h : ¬ x = y) : zcc .ne x y = true := by simp [zcc, h]
theorem znne {x y : Int32} (h : x = y) : zcc .ne x y = false := by simp [zcc, h]
theorem zm_9 : zMt[9]? = some (yX1_allBars, cX1_allBars, 1, (some .int), 1, false) := rfl
theorem zd_9 (pc : Nat) : zdec 9 pc = zdl_9.lookup pc := rfl
theorem zm_14 : zMt[14]? = some (yX1_hasBar, cX1_hasBar, 2, (some .boolean), 1, false) := rfl
theorem zd_14 (pc : Nat) : zdec 14 pc = zdl_14.lookup pc := rfl
theorem zm_15 : zMt[15]? = some (yX1_hasJoint, cX1_hasJoint, 2, (some .boolean), 1, false) := rfl
theorem zd_15 (pc : Nat) : zdec 15 pc = zdl_15.lookup pc := rfl
theorem zm_16 : zMt[16]? = some (yX1_hasSet, cX1_hasSet, 2, (some .boolean), 1, false) := rfl
theorem zd_16 (pc : Nat) : zdec 16 pc = zdl_16.lookup pc := rfl
theorem zm_84 : zMt[84]? = some (yX6_isPair, cX6_isPair, 3, (some .boolean), 6, false) := rfl
theorem zd_84 (pc : Nat) : zdec 84 pc = zdl_84.lookup pc := rfl
theorem zm_85 : zMt[85]? = some (yX6_isTooFar, cX6_isTooFar, 1, (some .boolean), 6, false) := rfl
theorem zd_85 (pc : Nat) : zdec 85 pc = zdl_85.lookup pc := rfl
theorem zm_91 : zMt[91]? = some (yX6_matroidOf, cX6_matroidOf, 2, (some (.object "RigidRanks$Matroid")), 6, false) := rfl
theorem zd_91 (pc : Nat) : zdec 91 pc = zdl_91.lookup pc := rfl
theorem zm_102 : zMt[102]? = some (yX7_all, cX7_all, 1, (some .int), 7, false) := rfl
theorem zd_102 (pc : Nat) : zdec 102 pc = zdl_102.lookup pc := rfl
theorem zm_131 : zMt[131]? = some (yX7_isIn, cX7_isIn, 3, (some .boolean), 7, false) := rfl
theorem zd_131 (pc : Nat) : zdec 131 pc = zdl_131.lookup pc := rfl
theorem zm_132 : zMt[132]? = some (yX7_isJoint, cX7_isJoint, 2, (some .boolean), 7, false) := rfl
theorem zd_132 (pc : Nat) : zdec 132 pc = zdl_132.lookup pc := rfl
theorem zm_137 : zMt[137]? = some (yX7_isSet, cX7_isSet, 2, (some .boolean), 7, false) := rfl
theorem zd_137 (pc : Nat) : zdec 137 pc = zdl_137.lookup pc := rfl
theorem zm_138 : zMt[138]? = some (yX7_isSort, cX7_isSort, 2, (some .boolean), 7, false) := rfl
theorem zd_138 (pc : Nat) : zdec 138 pc = zdl_138.lookup pc := rfl
theorem zm_139 : zMt[139]? = some (yX7_isWay, cX7_isWay, 1, (some .boolean), 7, false) := rfl
theorem zd_139 (pc : Nat) : zdec 139 pc = zdl_139.lookup pc := rfl
theorem zq_1_40 : zcl 1 40 = some (3, 1, 9, 0) := by decide +kernel
theorem zq_6_34 : zcl 6 34 = some (3, 1, 15, 1) := by decide +kernel
theorem zq_7_70 : zcl 7 70 = some (2, 0, 131, 3) := by decide +kernel
theorem zq_7_151 : zcl 7 151 = some (3, 5, 102, 0) := by decide +kernel
theorem zqv_1_40_1 : zclv 1 40 1 = some (3, 1, 9, 0) := by decide +kernel
theorem zqv_6_34_1 : zclv 6 34 1 = some (3, 1, 15, 1) := by decide +kernel
theorem zqv_7_151_5 : zclv 7 151 5 = some (3, 5, 102, 0) := by decide +kernel
theorem c_isIn1 {d : Nat} {w : zW} {v lo hi : Int32} (h1 : ¬ v < lo) (h2 : ¬ hi < v) : zmet (d) 131 [.int v, .int lo, .int hi] w (some (.int 1)) w := by
  refine ⟨_, rfl, Nat.le_of_ble_eq_true rfl, ?_⟩
  show zev (d) 131 0 [some (.int v), some (.int lo), some (.int hi)] [] w _ _
  refine zt (pc' := 1) ((zd_131 _).trans rfl) zm_131 rfl rfl ?_
  refine zt (pc' := 2) ((zd_131 _).trans rfl) zm_131 rfl rfl ?_
  refine zt_icF (tgt := 14) (pc' := 5) ((zd_131 _).trans rfl) zm_131 rfl rfl (znlt h1) ?_
  refine zt (pc' := 6) ((zd_131 _).trans rfl) zm_131 rfl rfl ?_
  refine zt (pc' := 7) ((zd_131 _).trans rfl) zm_131 rfl rfl ?_
  refine zt_icF (tgt := 14) (pc' := 10) ((zd_131 _).trans rfl) zm_131 rfl rfl (zngt h2) ?_
  refine zt (pc' := 11) ((zd_131 _).trans rfl) zm_131 rfl rfl ?_
  refine zt (pc' := 15) ((zd_131 _).trans rfl) zm_131 rfl rfl ?_
  exact zte ((zd_131 _).trans rfl) zm_131 rfl
theorem c_isIn0 {d : Nat} {w : zW} {v lo hi : Int32} (h : v < lo ∨ hi < v) : zmet d 131 [.int v, .int lo, .int hi] w (some (.int 0)) w := by
  refine ⟨_, rfl, Nat.le_of_ble_eq_true rfl, ?_⟩
  show zev d 131 0 [some (.int v), some (.int lo), some (.int hi)] [] w _ _
  by_cases h1 : v < lo
  · refine zt (pc' := 1) ((zd_131 _).trans rfl) zm_131 rfl rfl ?_
    refine zt (pc' := 2) ((zd_131 _).trans rfl) zm_131 rfl rfl ?_
    refine zt_icT (tgt := 14) (pc' := 5) ((zd_131 _).trans rfl) zm_131 rfl rfl (zlt h1) ?_
    refine zt (pc' := 15) ((zd_131 _).trans rfl) zm_131 rfl rfl ?_
    exact zte ((zd_131 _).trans rfl) zm_131 rfl
  · have h2 : hi < v := by exact h.resolve_left h1
    refine zt (pc' := 1) ((zd_131 _).trans rfl) zm_131 rfl rfl ?_
    refine zt (pc' := 2) ((zd_131 _).trans rfl) zm_131 rfl rfl ?_
    refine zt_icF (tgt := 14) (pc' := 5) ((zd_131 _).trans rfl) zm_131 rfl rfl (znlt h1) ?_
    refine zt (pc' := 6) ((zd_131 _).trans rfl) zm_131 rfl rfl ?_
    refine zt (pc' := 7) ((zd_131 _).trans rfl) zm_131 rfl rfl ?_
    refine zt_icT (tgt := 14) (pc' := 10) ((zd_131 _).trans rfl) zm_131 rfl rfl (zgt h2) ?_
    refine zt (pc' := 15) ((zd_131 _).trans rfl) zm_131 rfl rfl ?_
    exact zte ((zd_131 _).trans rfl) zm_131 rfl
theorem c_hasJoint1 {d : Nat} {w : zW} {a : Nat} {p0 p1 p2 p3 : Value} {v j bs ve : Int32} (hF : w.1 a = some (.inr (1, [p0, p1, p2, p3, .int j, .int bs, .int ve]))) (h1 : ¬ v < 0) (h2 : ¬ j ≤ v) : zmet (d) 15 [.ref a, .int v] w (some (.int 1)) w := by
  refine ⟨_, rfl, Nat.le_of_ble_eq_true rfl, ?_⟩
  show zev (d) 15 0 [some (.ref a), some (.int v)] [] w _ _
  refine zt (pc' := 1) ((zd_15 _).trans rfl) zm_15 rfl rfl ?_
  refine zt_ifF (tgt := 16) (pc' := 4) ((zd_15 _).trans rfl) zm_15 rfl rfl (znlt h1) ?_
  refine zt (pc' := 5) ((zd_15 _).trans rfl) zm_15 rfl rfl ?_
  refine zt (pc' := 6) ((zd_15 _).trans rfl) zm_15 rfl rfl ?_
  refine zt_get (pc' := 9) ((zd_15 _).trans rfl) zm_15 rfl rfl hF (by decide) rfl ?_
  refine zt_icF (tgt := 16) (pc' := 12) ((zd_15 _).trans rfl) zm_15 rfl rfl (znge h2) ?_
  refine zt (pc' := 13) ((zd_15 _).trans rfl) zm_15 rfl rfl ?_
  refine zt (pc' := 17) ((zd_15 _).trans rfl) zm_15 rfl rfl ?_
  exact zte ((zd_15 _).trans rfl) zm_15 rfl
theorem c_hasJoint0 {d : Nat} {w : zW} {a : Nat} {p0 p1 p2 p3 : Value} {v j bs ve : Int32} (hF : w.1 a = some (.inr (1, [p0, p1, p2, p3, .int j, .int bs, .int ve]))) (h : v < 0 ∨ j ≤ v) : zmet d 15 [.ref a, .int v] w (some (.int 0)) w := by
  refine ⟨_, rfl, Nat.le_of_ble_eq_true rfl, ?_⟩
  show zev d 15 0 [some (.ref a), some (.int v)] [] w _ _
  by_cases h1 : v < 0
  · refine zt (pc' := 1) ((zd_15 _).trans rfl) zm_15 rfl rfl ?_
    refine zt_ifT (tgt := 16) (pc' := 4) ((zd_15 _).trans rfl) zm_15 rfl rfl (zlt h1) ?_
    refine zt (pc' := 17) ((zd_15 _).trans rfl) zm_15 rfl rfl ?_
    exact zte ((zd_15 _).trans rfl) zm_15 rfl
  · have h2 : j ≤ v := by exact h.resolve_left h1
    refine zt (pc' := 1) ((zd_15 _).trans rfl) zm_15 rfl rfl ?_
    refine zt_ifF (tgt := 16) (pc' := 4) ((zd_15 _).trans rfl) zm_15 rfl rfl (znlt h1) ?_
    refine zt (pc' := 5) ((zd_15 _).trans rfl) zm_15 rfl rfl ?_
    refine zt (pc' := 6) ((zd_15 _).trans rfl) zm_15 rfl rfl ?_
    refine zt_get (pc' := 9) ((zd_15 _).trans rfl) zm_15 rfl rfl hF (by decide) rfl ?_
    refine zt_icT (tgt := 16) (pc' := 12) ((zd_15 _).trans rfl) zm_15 rfl rfl (zge h2) ?_
    refine zt (pc' := 17) ((zd_15 _).trans rfl) zm_15 rfl rfl ?_
    exact zte ((zd_15 _).trans rfl) zm_15 rfl
theorem c_hasBar1 {d : Nat} {w : zW} {a : Nat} {p0 p1 p2 p3 : Value} {v j bs ve : Int32} (hF : w.1 a = some (.inr (1, [p0, p1, p2, p3, .int j, .int bs, .int ve]))) (h1 : ¬ v < 0) (h2 : ¬ bs ≤ v) : zmet (d) 14 [.ref a, .int v] w (some (.int 1)) w := by
  refine ⟨_, rfl, Nat.le_of_ble_eq_true rfl, ?_⟩
  show zev (d) 14 0 [some (.ref a), some (.int v)] [] w _ _
  refine zt (pc' := 1) ((zd_14 _).trans rfl) zm_14 rfl rfl ?_
  refine zt_ifF (tgt := 16) (pc' := 4) ((zd_14 _).trans rfl) zm_14 rfl rfl (znlt h1) ?_
  refine zt (pc' := 5) ((zd_14 _).trans rfl) zm_14 rfl rfl ?_
  refine zt (pc' := 6) ((zd_14 _).trans rfl) zm_14 rfl rfl ?_
  refine zt_get (pc' := 9) ((zd_14 _).trans rfl) zm_14 rfl rfl hF (by decide) rfl ?_
  refine zt_icF (tgt := 16) (pc' := 12) ((zd_14 _).trans rfl) zm_14 rfl rfl (znge h2) ?_
  refine zt (pc' := 13) ((zd_14 _).trans rfl) zm_14 rfl rfl ?_
  refine zt (pc' := 17) ((zd_14 _).trans rfl) zm_14 rfl rfl ?_
  exact zte ((zd_14 _).trans rfl) zm_14 rfl
theorem c_hasBar0 {d : Nat} {w : zW} {a : Nat} {p0 p1 p2 p3 : Value} {v j bs ve : Int32} (hF : w.1 a = some (.inr (1, [p0, p1, p2, p3, .int j, .int bs, .int ve]))) (h : v < 0 ∨ bs ≤ v) : zmet d 14 [.ref a, .int v] w (some (.int 0)) w := by
  refine ⟨_, rfl, Nat.le_of_ble_eq_true rfl, ?_⟩
  show zev d 14 0 [some (.ref a), some (.int v)] [] w _ _
  by_cases h1 : v < 0
  · refine zt (pc' := 1) ((zd_14 _).trans rfl) zm_14 rfl rfl ?_
    refine zt_ifT (tgt := 16) (pc' := 4) ((zd_14 _).trans rfl) zm_14 rfl rfl (zlt h1) ?_
    refine zt (pc' := 17) ((zd_14 _).trans rfl) zm_14 rfl rfl ?_
    exact zte ((zd_14 _).trans rfl) zm_14 rfl
  · have h2 : bs ≤ v := by exact h.resolve_left h1
    refine zt (pc' := 1) ((zd_14 _).trans rfl) zm_14 rfl rfl ?_
    refine zt_ifF (tgt := 16) (pc' := 4) ((zd_14 _).trans rfl) zm_14 rfl rfl (znlt h1) ?_
    refine zt (pc' := 5) ((zd_14 _).trans rfl) zm_14 rfl rfl ?_
    refine zt (pc' := 6) ((zd_14 _).trans rfl) zm_14 rfl rfl ?_
    refine zt_get (pc' := 9) ((zd_14 _).trans rfl) zm_14 rfl rfl hF (by decide) rfl ?_
    refine zt_icT (tgt := 16) (pc' := 12) ((zd_14 _).trans rfl) zm_14 rfl rfl (zge h2) ?_
    refine zt (pc' := 17) ((zd_14 _).trans rfl) zm_14 rfl rfl ?_
    exact zte ((zd_14 _).trans rfl) zm_14 rfl
theorem c_allBars {d : Nat} {w : zW} {a : Nat} {p0 p1 p2 p3 : Value} {j bs ve : Int32} (hF : w.1 a = some (.inr (1, [p0, p1, p2, p3, .int j, .int bs, .int ve]))) : zmet (d) 9 [.ref a] w (some (.int (1 <<< (bs &&& 31) - 1))) w := by
  refine ⟨_, rfl, Nat.le_of_ble_eq_true rfl, ?_⟩
  show zev (d) 9 0 [some (.ref a)] [] w _ _
  refine zt (pc' := 1) ((zd_9 _).trans rfl) zm_9 rfl rfl ?_
  refine zt (pc' := 2) ((zd_9 _).trans rfl) zm_9 rfl rfl ?_
  refine zt_get (pc' := 5) ((zd_9 _).trans rfl) zm_9 rfl rfl hF (by decide) rfl ?_
  refine zt (pc' := 6) ((zd_9 _).trans rfl) zm_9 rfl rfl ?_
  refine zt (pc' := 7) ((zd_9 _).trans rfl) zm_9 rfl rfl ?_
  refine zt (pc' := 8) ((zd_9 _).trans rfl) zm_9 rfl rfl ?_
  exact zte ((zd_9 _).trans rfl) zm_9 rfl
theorem c_hasSet1 {d : Nat} {w : zW} {a : Nat} {p0 p1 p2 p3 : Value} {v j bs ve : Int32} (hF : w.1 a = some (.inr (1, [p0, p1, p2, p3, .int j, .int bs, .int ve]))) (h1 : ¬ v < 0) (h2 : ¬ 1 <<< (bs &&& 31) - 1 < v) : zmet (d + 1) 16 [.ref a, .int v] w (some (.int 1)) w := by
  refine ⟨_, rfl, Nat.le_of_ble_eq_true rfl, ?_⟩
  show zev (d + 1) 16 0 [some (.ref a), some (.int v)] [] w _ _
  refine zt (pc' := 1) ((zd_16 _).trans rfl) zm_16 rfl rfl ?_
  refine zt_ifF (tgt := 16) (pc' := 4) ((zd_16 _).trans rfl) zm_16 rfl rfl (znlt h1) ?_
  refine zt (pc' := 5) ((zd_16 _).trans rfl) zm_16 rfl rfl ?_
  refine zt (pc' := 6) ((zd_16 _).trans rfl) zm_16 rfl rfl ?_
  refine zt_V (pc' := 9) ((zd_16 _).trans rfl) zm_16 rfl zq_1_40 rfl (Nat.le_of_ble_eq_true rfl) hF zqv_1_40_1 (by decide) rfl (c_allBars hF) ?_
  refine zt_icF (tgt := 16) (pc' := 12) ((zd_16 _).trans rfl) zm_16 rfl rfl (zngt h2) ?_
  refine zt (pc' := 13) ((zd_16 _).trans rfl) zm_16 rfl rfl ?_
  refine zt (pc' := 17) ((zd_16 _).trans rfl) zm_16 rfl rfl ?_
  exact zte ((zd_16 _).trans rfl) zm_16 rfl
theorem c_hasSet0 {d : Nat} {w : zW} {a : Nat} {p0 p1 p2 p3 : Value} {v j bs ve : Int32} (hF : w.1 a = some (.inr (1, [p0, p1, p2, p3, .int j, .int bs, .int ve]))) (h : v < 0 ∨ 1 <<< (bs &&& 31) - 1 < v) : zmet (d + 1) 16 [.ref a, .int v] w (some (.int 0)) w := by
  refine ⟨_, rfl, Nat.le_of_ble_eq_true rfl, ?_⟩
  show zev (d + 1) 16 0 [some (.ref a), some (.int v)] [] w _ _
  by_cases h1 : v < 0
  · refine zt (pc' := 1) ((zd_16 _).trans rfl) zm_16 rfl rfl ?_
    refine zt_ifT (tgt := 16) (pc' := 4) ((zd_16 _).trans rfl) zm_16 rfl rfl (zlt h1) ?_
    refine zt (pc' := 17) ((zd_16 _).trans rfl) zm_16 rfl rfl ?_
    exact zte ((zd_16 _).trans rfl) zm_16 rfl
  · have h2 : 1 <<< (bs &&& 31) - 1 < v := by exact h.resolve_left h1
    refine zt (pc' := 1) ((zd_16 _).trans rfl) zm_16 rfl rfl ?_
    refine zt_ifF (tgt := 16) (pc' := 4) ((zd_16 _).trans rfl) zm_16 rfl rfl (znlt h1) ?_
    refine zt (pc' := 5) ((zd_16 _).trans rfl) zm_16 rfl rfl ?_
    refine zt (pc' := 6) ((zd_16 _).trans rfl) zm_16 rfl rfl ?_
    refine zt_V (pc' := 9) ((zd_16 _).trans rfl) zm_16 rfl zq_1_40 rfl (Nat.le_of_ble_eq_true rfl) hF zqv_1_40_1 (by decide) rfl (c_allBars hF) ?_
    refine zt_icT (tgt := 16) (pc' := 12) ((zd_16 _).trans rfl) zm_16 rfl rfl (zgt h2) ?_
    refine zt (pc' := 17) ((zd_16 _).trans rfl) zm_16 rfl rfl ?_
    exact zte ((zd_16 _).trans rfl) zm_16 rfl
theorem c_far0 {d : Nat} {w : zW} {v : Int32} (h1 : ¬ v < -4) (h2 : v ≤ 4) : zmet (d) 85 [.int v] w (some (.int 0)) w := by
  refine ⟨_, rfl, Nat.le_of_ble_eq_true rfl, ?_⟩
  show zev (d) 85 0 [some (.int v)] [] w _ _
  refine zt (pc' := 1) ((zd_85 _).trans rfl) zm_85 rfl rfl ?_
  refine zt (pc' := 3) ((zd_85 _).trans rfl) zm_85 rfl rfl ?_
  refine zt_icF (tgt := 11) (pc' := 6) ((zd_85 _).trans rfl) zm_85 rfl rfl (znlt h1) ?_
  refine zt (pc' := 7) ((zd_85 _).trans rfl) zm_85 rfl rfl ?_
  refine zt (pc' := 8) ((zd_85 _).trans rfl) zm_85 rfl rfl ?_
  refine zt_icT (tgt := 15) (pc' := 11) ((zd_85 _).trans rfl) zm_85 rfl rfl (zle' h2) ?_
  refine zt (pc' := 16) ((zd_85 _).trans rfl) zm_85 rfl rfl ?_
  exact zte ((zd_85 _).trans rfl) zm_85 rfl
theorem c_far1a {d : Nat} {w : zW} {v : Int32} (h1 : v < -4) : zmet (d) 85 [.int v] w (some (.int 1)) w := by
  refine ⟨_, rfl, Nat.le_of_ble_eq_true rfl, ?_⟩
  show zev (d) 85 0 [some (.int v)] [] w _ _
  refine zt (pc' := 1) ((zd_85 _).trans rfl) zm_85 rfl rfl ?_
  refine zt (pc' := 3) ((zd_85 _).trans rfl) zm_85 rfl rfl ?_
  refine zt_icT (tgt := 11) (pc' := 6) ((zd_85 _).trans rfl) zm_85 rfl rfl (zlt h1) ?_
  refine zt (pc' := 12) ((zd_85 _).trans rfl) zm_85 rfl rfl ?_
  refine zt (pc' := 16) ((zd_85 _).trans rfl) zm_85 rfl rfl ?_
  exact zte ((zd_85 _).trans rfl) zm_85 rfl
theorem c_far1b {d : Nat} {w : zW} {v : Int32} (h1 : ¬ v < -4) (h2 : ¬ v ≤ 4) : zmet (d) 85 [.int v] w (some (.int 1)) w := by
  refine ⟨_, rfl, Nat.le_of_ble_eq_true rfl, ?_⟩
  show zev (d) 85 0 [some (.int v)] [] w _ _
  refine zt (pc' := 1) ((zd_85 _).trans rfl) zm_85 rfl rfl ?_
  refine zt (pc' := 3) ((zd_85 _).trans rfl) zm_85 rfl rfl ?_
  refine zt_icF (tgt := 11) (pc' := 6) ((zd_85 _).trans rfl) zm_85 rfl rfl (znlt h1) ?_
  refine zt (pc' := 7) ((zd_85 _).trans rfl) zm_85 rfl rfl ?_
  refine zt (pc' := 8) ((zd_85 _).trans rfl) zm_85 rfl rfl ?_
  refine zt_icF (tgt := 15) (pc' := 11) ((zd_85 _).trans rfl) zm_85 rfl rfl (znle h2) ?_
  refine zt (pc' := 12) ((zd_85 _).trans rfl) zm_85 rfl rfl ?_
  refine zt (pc' := 16) ((zd_85 _).trans rfl) zm_85 rfl rfl ?_
  exact zte ((zd_85 _).trans rfl) zm_85 rfl
theorem z01 {v : Int32} (h1 : ¬ v < 0) (h2 : ¬ (1 : Int32) ≤ v) : v = 0 := by
  have a := Int32.not_lt.mp h1
  have b := Int32.not_le.mp h2
  rw [Int32.le_iff_toInt_le] at a
  rw [Int32.lt_iff_toInt_lt] at b
  have e0 : (0 : Int32).toInt = 0 := rfl
  have e1 : (1 : Int32).toInt = 1 := rfl
  exact Int32.toInt_inj.mp (by omega)
theorem c_isPair0 {d : Nat} {w : zW} {a b : Int32} {q1 q2 : Value} (hX : w.1 1 = some (.inr (4, [.ref 2, q1, q2]))) {p0 p1 p2 p3 : Value} {bs ve : Int32} (hF : w.1 2 = some (.inr (1, [p0, p1, p2, p3, .int 1, .int bs, .int ve]))) : zmet (d + 1) 84 [.ref 1, .int a, .int b] w (some (.int 0)) w := by
  refine ⟨_, rfl, Nat.le_of_ble_eq_true rfl, ?_⟩
  show zev (d + 1) 84 0 [some (.ref 1), some (.int a), some (.int b)] [] w _ _
  by_cases ha : a < 0 ∨ (1 : Int32) ≤ a
  · refine zt (pc' := 1) ((zd_84 _).trans rfl) zm_84 rfl rfl ?_
    refine zt_get (pc' := 4) ((zd_84 _).trans rfl) zm_84 rfl rfl hX (by decide) rfl ?_
    refine zt (pc' := 5) ((zd_84 _).trans rfl) zm_84 rfl rfl ?_
    refine zt_V (pc' := 8) ((zd_84 _).trans rfl) zm_84 rfl zq_6_34 rfl (Nat.le_of_ble_eq_true rfl) hF zqv_6_34_1 (by decide) rfl (c_hasJoint0 hF ha) ?_
    refine zt_ifT (tgt := 31) (pc' := 11) ((zd_84 _).trans rfl) zm_84 rfl rfl (zeq rfl) ?_
    refine zt (pc' := 32) ((zd_84 _).trans rfl) zm_84 rfl rfl ?_
    exact zte ((zd_84 _).trans rfl) zm_84 rfl
  · have ha1 : ¬ a < 0 := fun h => ha (Or.inl h)
    have ha2 : ¬ (1 : Int32) ≤ a := fun h => ha (Or.inr h)
    by_cases hb : b < 0 ∨ (1 : Int32) ≤ b
    · refine zt (pc' := 1) ((zd_84 _).trans rfl) zm_84 rfl rfl ?_
      refine zt_get (pc' := 4) ((zd_84 _).trans rfl) zm_84 rfl rfl hX (by decide) rfl ?_
      refine zt (pc' := 5) ((zd_84 _).trans rfl) zm_84 rfl rfl ?_
      refine zt_V (pc' := 8) ((zd_84 _).trans rfl) zm_84 rfl zq_6_34 rfl (Nat.le_of_ble_eq_true rfl) hF zqv_6_34_1 (by decide) rfl (c_hasJoint1 hF ha1 ha2) ?_
      refine zt_ifF (tgt := 31) (pc' := 11) ((zd_84 _).trans rfl) zm_84 rfl rfl (zneq (by decide)) ?_
      refine zt (pc' := 12) ((zd_84 _).trans rfl) zm_84 rfl rfl ?_
      refine zt_get (pc' := 15) ((zd_84 _).trans rfl) zm_84 rfl rfl hX (by decide) rfl ?_
      refine zt (pc' := 16) ((zd_84 _).trans rfl) zm_84 rfl rfl ?_
      refine zt_V (pc' := 19) ((zd_84 _).trans rfl) zm_84 rfl zq_6_34 rfl (Nat.le_of_ble_eq_true rfl) hF zqv_6_34_1 (by decide) rfl (c_hasJoint0 hF hb) ?_
      refine zt_ifT (tgt := 31) (pc' := 22) ((zd_84 _).trans rfl) zm_84 rfl rfl (zeq rfl) ?_
      refine zt (pc' := 32) ((zd_84 _).trans rfl) zm_84 rfl rfl ?_
      exact zte ((zd_84 _).trans rfl) zm_84 rfl
    · have hb1 : ¬ b < 0 := fun h => hb (Or.inl h)
      have hb2 : ¬ (1 : Int32) ≤ b := fun h => hb (Or.inr h)
      have hab : a = b := (z01 ha1 ha2).trans (z01 hb1 hb2).symm
      refine zt (pc' := 1) ((zd_84 _).trans rfl) zm_84 rfl rfl ?_
      refine zt_get (pc' := 4) ((zd_84 _).trans rfl) zm_84 rfl rfl hX (by decide) rfl ?_
      refine zt (pc' := 5) ((zd_84 _).trans rfl) zm_84 rfl rfl ?_
      refine zt_V (pc' := 8) ((zd_84 _).trans rfl) zm_84 rfl zq_6_34 rfl (Nat.le_of_ble_eq_true rfl) hF zqv_6_34_1 (by decide) rfl (c_hasJoint1 hF ha1 ha2) ?_
      refine zt_ifF (tgt := 31) (pc' := 11) ((zd_84 _).trans rfl) zm_84 rfl rfl (zneq (by decide)) ?_
      refine zt (pc' := 12) ((zd_84 _).trans rfl) zm_84 rfl rfl ?_
      refine zt_get (pc' := 15) ((zd_84 _).trans rfl) zm_84 rfl rfl hX (by decide) rfl ?_
      refine zt (pc' := 16) ((zd_84 _).trans rfl) zm_84 rfl rfl ?_
      refine zt_V (pc' := 19) ((zd_84 _).trans rfl) zm_84 rfl zq_6_34 rfl (Nat.le_of_ble_eq_true rfl) hF zqv_6_34_1 (by decide) rfl (c_hasJoint1 hF hb1 hb2) ?_
      refine zt_ifF (tgt := 31) (pc' := 22) ((zd_84 _).trans rfl) zm_84 rfl rfl (zneq (by decide)) ?_
      refine zt (pc' := 23) ((zd_84 _).trans rfl) zm_84 rfl rfl ?_
      refine zt (pc' := 24) ((zd_84 _).trans rfl) zm_84 rfl rfl ?_
      refine zt_icT (tgt := 31) (pc' := 27) ((zd_84 _).trans rfl) zm_84 rfl rfl (zeq hab) ?_
      refine zt (pc' := 32) ((zd_84 _).trans rfl) zm_84 rfl rfl ?_
      exact zte ((zd_84 _).trans rfl) zm_84 rfl
theorem c_matroidOf0 {d : Nat} {w : zW} {v : Int32} (h : v < 0 ∨ (3 : Int32) ≤ v) : zmet d 91 [.ref 1, .int v] w (some .null) w := by
  refine ⟨_, rfl, Nat.le_of_ble_eq_true rfl, ?_⟩
  show zev d 91 0 [some (.ref 1), some (.int v)] [] w _ _
  by_cases h1 : v < 0
  · refine zt (pc' := 1) ((zd_91 _).trans rfl) zm_91 rfl rfl ?_
    refine zt_ifT (tgt := 25) (pc' := 4) ((zd_91 _).trans rfl) zm_91 rfl rfl (zlt h1) ?_
    refine zt (pc' := 26) ((zd_91 _).trans rfl) zm_91 rfl rfl ?_
    exact zte ((zd_91 _).trans rfl) zm_91 rfl
  · have h2 : (3 : Int32) ≤ v := by exact h.resolve_left h1
    refine zt (pc' := 1) ((zd_91 _).trans rfl) zm_91 rfl rfl ?_
    refine zt_ifF (tgt := 25) (pc' := 4) ((zd_91 _).trans rfl) zm_91 rfl rfl (znlt h1) ?_
    refine zt (pc' := 5) ((zd_91 _).trans rfl) zm_91 rfl rfl ?_
    refine zt (pc' := 6) ((zd_91 _).trans rfl) zm_91 rfl rfl ?_
    refine zt_icT (tgt := 25) (pc' := 9) ((zd_91 _).trans rfl) zm_91 rfl rfl (zge h2) ?_
    refine zt (pc' := 26) ((zd_91 _).trans rfl) zm_91 rfl rfl ?_
    exact zte ((zd_91 _).trans rfl) zm_91 rfl
theorem c_isJoint1 {d : Nat} {w : zW} {ms : List Value} {n bs : Int32} {pl : Value} (hM : w.1 9 = some (.inr (5, .int n :: pl :: .int bs :: ms))) {v : Int32} (h1 : ¬ v < 0) (h2 : ¬ n - 1 < v) : zmet (d + 1) 132 [.ref 9, .int v] w (some (.int 1)) w := by
  refine ⟨_, rfl, Nat.le_of_ble_eq_true rfl, ?_⟩
  show zev (d + 1) 132 0 [some (.ref 9), some (.int v)] [] w _ _
  refine zt (pc' := 1) ((zd_132 _).trans rfl) zm_132 rfl rfl ?_
  refine zt (pc' := 2) ((zd_132 _).trans rfl) zm_132 rfl rfl ?_
  refine zt (pc' := 3) ((zd_132 _).trans rfl) zm_132 rfl rfl ?_
  refine zt_get (pc' := 6) ((zd_132 _).trans rfl) zm_132 rfl rfl hM (by decide) rfl ?_
  refine zt (pc' := 7) ((zd_132 _).trans rfl) zm_132 rfl rfl ?_
  refine zt (pc' := 8) ((zd_132 _).trans rfl) zm_132 rfl rfl ?_
  refine zt_S (pc' := 11) ((zd_132 _).trans rfl) zm_132 rfl zq_7_70 (Nat.le_of_ble_eq_true rfl) (Nat.le_of_ble_eq_true rfl) rfl (c_isIn1 h1 h2) ?_
  exact zte ((zd_132 _).trans rfl) zm_132 rfl
theorem c_isJoint0 {d : Nat} {w : zW} {ms : List Value} {n bs : Int32} {pl : Value} (hM : w.1 9 = some (.inr (5, .int n :: pl :: .int bs :: ms))) {v : Int32} (h : v < 0 ∨ n - 1 < v) : zmet (d + 1) 132 [.ref 9, .int v] w (some (.int 0)) w := by
  refine ⟨_, rfl, Nat.le_of_ble_eq_true rfl, ?_⟩
  show zev (d + 1) 132 0 [some (.ref 9), some (.int v)] [] w _ _
  refine zt (pc' := 1) ((zd_132 _).trans rfl) zm_132 rfl rfl ?_
  refine zt (pc' := 2) ((zd_132 _).trans rfl) zm_132 rfl rfl ?_
  refine zt (pc' := 3) ((zd_132 _).trans rfl) zm_132 rfl rfl ?_
  refine zt_get (pc' := 6) ((zd_132 _).trans rfl) zm_132 rfl rfl hM (by decide) rfl ?_
  refine zt (pc' := 7) ((zd_132 _).trans rfl) zm_132 rfl rfl ?_
  refine zt (pc' := 8) ((zd_132 _).trans rfl) zm_132 rfl rfl ?_
  refine zt_S (pc' := 11) ((zd_132 _).trans rfl) zm_132 rfl zq_7_70 (Nat.le_of_ble_eq_true rfl) (Nat.le_of_ble_eq_true rfl) rfl (c_isIn0 h) ?_
  exact zte ((zd_132 _).trans rfl) zm_132 rfl
theorem c_isWay1 {d : Nat} {w : zW} {v : Int32} (h1 : ¬ v < -4) (h2 : ¬ 4 < v) : zmet (d + 1) 139 [.int v] w (some (.int 1)) w := by
  refine ⟨_, rfl, Nat.le_of_ble_eq_true rfl, ?_⟩
  show zev (d + 1) 139 0 [some (.int v)] [] w _ _
  refine zt (pc' := 1) ((zd_139 _).trans rfl) zm_139 rfl rfl ?_
  refine zt (pc' := 3) ((zd_139 _).trans rfl) zm_139 rfl rfl ?_
  refine zt (pc' := 4) ((zd_139 _).trans rfl) zm_139 rfl rfl ?_
  refine zt_S (pc' := 7) ((zd_139 _).trans rfl) zm_139 rfl zq_7_70 (Nat.le_of_ble_eq_true rfl) (Nat.le_of_ble_eq_true rfl) rfl (c_isIn1 h1 h2) ?_
  exact zte ((zd_139 _).trans rfl) zm_139 rfl
theorem c_isWay0 {d : Nat} {w : zW} {v : Int32} (h : v < -4 ∨ 4 < v) : zmet (d + 1) 139 [.int v] w (some (.int 0)) w := by
  refine ⟨_, rfl, Nat.le_of_ble_eq_true rfl, ?_⟩
  show zev (d + 1) 139 0 [some (.int v)] [] w _ _
  refine zt (pc' := 1) ((zd_139 _).trans rfl) zm_139 rfl rfl ?_
  refine zt (pc' := 3) ((zd_139 _).trans rfl) zm_139 rfl rfl ?_
  refine zt (pc' := 4) ((zd_139 _).trans rfl) zm_139 rfl rfl ?_
  refine zt_S (pc' := 7) ((zd_139 _).trans rfl) zm_139 rfl zq_7_70 (Nat.le_of_ble_eq_true rfl) (Nat.le_of_ble_eq_true rfl) rfl (c_isIn0 h) ?_
  exact zte ((zd_139 _).trans rfl) zm_139 rfl
theorem c_all {d : Nat} {w : zW} {ms : List Value} {n bs : Int32} {pl : Value} (hM : w.1 9 = some (.inr (5, .int n :: pl :: .int bs :: ms))) : zmet (d) 102 [.ref 9] w (some (.int (1 <<< (bs &&& 31) - 1))) w := by
  refine ⟨_, rfl, Nat.le_of_ble_eq_true rfl, ?_⟩
  show zev (d) 102 0 [some (.ref 9)] [] w _ _
  refine zt (pc' := 1) ((zd_102 _).trans rfl) zm_102 rfl rfl ?_
  refine zt (pc' := 2) ((zd_102 _).trans rfl) zm_102 rfl rfl ?_
  refine zt_get (pc' := 5) ((zd_102 _).trans rfl) zm_102 rfl rfl hM (by decide) rfl ?_
  refine zt (pc' := 6) ((zd_102 _).trans rfl) zm_102 rfl rfl ?_
  refine zt (pc' := 7) ((zd_102 _).trans rfl) zm_102 rfl rfl ?_
  refine zt (pc' := 8) ((zd_102 _).trans rfl) zm_102 rfl rfl ?_
  exact zte ((zd_102 _).trans rfl) zm_102 rfl
theorem c_isSet1 {d : Nat} {w : zW} {ms : List Value} {n bs : Int32} {pl : Value} (hM : w.1 9 = some (.inr (5, .int n :: pl :: .int bs :: ms))) {v : Int32} (h1 : ¬ v < 0) (h2 : ¬ 1 <<< (bs &&& 31) - 1 < v) : zmet (d + 1) 137 [.ref 9, .int v] w (some (.int 1)) w := by
  refine ⟨_, rfl, Nat.le_of_ble_eq_true rfl, ?_⟩
  show zev (d + 1) 137 0 [some (.ref 9), some (.int v)] [] w _ _
  refine zt (pc' := 1) ((zd_137 _).trans rfl) zm_137 rfl rfl ?_
  refine zt (pc' := 2) ((zd_137 _).trans rfl) zm_137 rfl rfl ?_
  refine zt (pc' := 3) ((zd_137 _).trans rfl) zm_137 rfl rfl ?_
  refine zt_V (pc' := 6) ((zd_137 _).trans rfl) zm_137 rfl zq_7_151 rfl (Nat.le_of_ble_eq_true rfl) hM zqv_7_151_5 (by decide) rfl (c_all hM) ?_
  refine zt_S (pc' := 9) ((zd_137 _).trans rfl) zm_137 rfl zq_7_70 (Nat.le_of_ble_eq_true rfl) (Nat.le_of_ble_eq_true rfl) rfl (c_isIn1 h1 h2) ?_
  exact zte ((zd_137 _).trans rfl) zm_137 rfl
theorem c_isSet0 {d : Nat} {w : zW} {ms : List Value} {n bs : Int32} {pl : Value} (hM : w.1 9 = some (.inr (5, .int n :: pl :: .int bs :: ms))) {v : Int32} (h : v < 0 ∨ 1 <<< (bs &&& 31) - 1 < v) : zmet (d + 1) 137 [.ref 9, .int v] w (some (.int 0)) w := by
  refine ⟨_, rfl, Nat.le_of_ble_eq_true rfl, ?_⟩
  show zev (d + 1) 137 0 [some (.ref 9), some (.int v)] [] w _ _
  refine zt (pc' := 1) ((zd_137 _).trans rfl) zm_137 rfl rfl ?_
  refine zt (pc' := 2) ((zd_137 _).trans rfl) zm_137 rfl rfl ?_
  refine zt (pc' := 3) ((zd_137 _).trans rfl) zm_137 rfl rfl ?_
  refine zt_V (pc' := 6) ((zd_137 _).trans rfl) zm_137 rfl zq_7_151 rfl (Nat.le_of_ble_eq_true rfl) hM zqv_7_151_5 (by decide) rfl (c_all hM) ?_
  refine zt_S (pc' := 9) ((zd_137 _).trans rfl) zm_137 rfl zq_7_70 (Nat.le_of_ble_eq_true rfl) (Nat.le_of_ble_eq_true rfl) rfl (c_isIn0 h) ?_
  exact zte ((zd_137 _).trans rfl) zm_137 rfl
theorem c_isSort0 {d : Nat} {w : zW} {ms : List Value} {n bs : Int32} {pl : Value} (hM : w.1 9 = some (.inr (5, .int n :: pl :: .int bs :: ms))) {v : Int32} (h : v < 0 ∨ 2 < v) : zmet (d + 1) 138 [.ref 9, .int v] w (some (.int 0)) w := by
  refine ⟨_, rfl, Nat.le_of_ble_eq_true rfl, ?_⟩
  show zev (d + 1) 138 0 [some (.ref 9), some (.int v)] [] w _ _
  refine zt (pc' := 1) ((zd_138 _).trans rfl) zm_138 rfl rfl ?_
  refine zt (pc' := 2) ((zd_138 _).trans rfl) zm_138 rfl rfl ?_
  refine zt (pc' := 3) ((zd_138 _).trans rfl) zm_138 rfl rfl ?_
  refine zt_S (pc' := 6) ((zd_138 _).trans rfl) zm_138 rfl zq_7_70 (Nat.le_of_ble_eq_true rfl) (Nat.le_of_ble_eq_true rfl) rfl (c_isIn0 h) ?_
  refine zt_ifT (tgt := 26) (pc' := 9) ((zd_138 _).trans rfl) zm_138 rfl rfl (zeq rfl) ?_
  refine zt (pc' := 27) ((zd_138 _).trans rfl) zm_138 rfl rfl ?_
  exact zte ((zd_138 _).trans rfl) zm_138 rfl
end
section
/-! the two new objects, in a world of their own -/
def zKw (q : Option (Option Value × zW)) : zW := match q with
  | some (_, w) => w
  | none => (fun _ => none, 0, 0)
def zKr (q : Option (Option Value × zW)) (r : Option Value) : Bool := match q with
  | some (v, _) => decide (v = r)
  | none => false
theorem zKw_ok {q : Option (Option Value × zW)} {r : Option Value} (h : zKr q r = true) : q = some (r, zKw q) := by
  cases q with
  | none => cases h
  | some x => obtain ⟨v, w⟩ := x; simp only [zKr, decide_eq_true_eq] at h; subst h; rfl
def zobj (w : zW) (a ci : Nat) (fs : List Value) : Bool := match w.1 a with
  | some (.inr (c, gs)) => decide (c = ci) && decide (gs = fs)
  | _ => false
theorem zobj_ok {w : zW} {a ci : Nat} {fs : List Value} (h : zobj w a ci fs = true) : w.1 a = some (.inr (ci, fs)) := by
  unfold zobj at h
  split at h
  · rename_i hw
    simp only [Bool.and_eq_true, decide_eq_true_eq] at h
    rw [hw, h.1, h.2]
  · cases h
theorem zmetK {f d mi : Nat} {as : List Value} {w : zW} {r : Option Value} {mL o : Nat} {y : MethodName} {b : ByteArray} {ret : Option FieldType} {ini : Bool} (hM : zMt[mi]? = some (y, b, mL, ret, o, ini)) (hl : (zen as).length ≤ mL) (h : zKr (zrunT f d mi 0 (zin mL as) [] w) r = true) : zmet d mi as w r (zKw (zrunT f d mi 0 (zin mL as) [] w)) :=
  ⟨_, hM, hl, f, zrunT_ok f _ _ _ _ _ _ _ (zKw_ok h)⟩
theorem zmet_ov {B : Nat → Option va_E} {d mi : Nat} {as : List Value} {w w1 : zW} {r : Option Value} (hn : 1 ≤ w.2.1) (h : zmet d mi as w r w1) : zmet d mi as (zov B w) r (zov B w1) := by
  obtain ⟨M, hM, hl, f, hf⟩ := h
  exact ⟨M, hM, hl, f, zrun_ov hn hf⟩
theorem zt_P {d mi pc len mL o : Nat} {L : zL} {st rr : List Value} {w w1 w' : zW} {r : Option Value} {y : MethodName} {b : ByteArray} {ret : Option FieldType} {ini : Bool} {pc' : Nat} {idx kd c0 n mj bb : Nat} {as : List Value} {v : Option Value} (hd : zdec mi pc = some (.invokespecial idx, 3)) (hM : zMt[mi]? = some (y, b, mL, ret, o, ini)) (hp : pc + 3 = pc') (hcl : zcl o idx = some (kd, c0, mj, n)) (hk : kd = 0 ∨ kd = 1) (hst : st.drop n = .ref bb :: rr) (h8 : zsum (st.drop (n + 1)) ≤ 8) (has : .ref bb :: (st.take n).reverse = as) (hm : zmet d mj as w v w1) (k : zev (d + 1) mi pc' L (v.toList ++ rr) w1 r w') : zev (d + 1) mi pc L st w r w' := by
  subst hp
  subst has
  have hc : zcall o (.invokespecial idx) 3 st w = some (mj, .ref bb :: (st.take n).reverse, rr) := by
    simp only [zcall, hcl, hst, h8, hk]
    simp
  exact zev_call hM (zdec_ok hM hd) rfl rfl ((zcall_ex hc).2.2 _ _ _ _ _ _) hc hm k
theorem zt_new {d mi pc mL o : Nat} {L : zL} {st : List Value} {w w' : zW} {r : Option Value} {y : MethodName} {b : ByteArray} {ret : Option FieldType} {ini : Bool} {pc' : Nat} {idx ci : Nat} (hd : zdec mi pc = some (.new idx, 3)) (hM : zMt[mi]? = some (y, b, mL, ret, o, ini)) (hp : pc + 3 = pc') (hc : zck o idx = some ci) (k : zev d mi pc' L (.ref w.2.1 :: st) (va_up w.1 w.2.1 (some (.inr (ci, zdf ci))), w.2.1 + 1, w.2.2 + (ztab ci).2.2) r w') : zev d mi pc L st w r w' := by
  subst hp
  exact zev_H hM (zdec_ok hM hd) rfl rfl (by simp only [zH, zHnew, hc]; simp) k
def zx0 : zW := (fun _ => none, 1, 0)
def zx1 : zW := (va_up zx0.1 1 (some (.inr (4, zdf 4))), 2, 0 + (ztab 4).2.2)
def zx2 : zW := zKw (zrunT 3000 40 83 0 (zin 1 [.ref 1]) [] zx1)
def zx3 : zW := (va_up zx2.1 9 (some (.inr (5, zdf 5))), 9 + 1, zx2.2.2 + (ztab 5).2.2)
def zx4 : zW := zKw (zrunT 3000 40 125 0 (zin 1 [.ref 9]) [] zx3)
theorem zx2_n : zx2.2.1 = 9 := by decide +kernel
theorem zm_83 : zMt[83]? = some (yX6_init, cX6_init, 1, none, 6, true) := rfl
theorem zm_125 : zMt[125]? = some (yX7_init, cX7_init, 1, none, 7, true) := rfl
theorem zx_R : zmet 40 83 [.ref 1] zx1 none zx2 := zmetK zm_83 (by decide) (by decide +kernel)
theorem zx_M : zmet 40 125 [.ref 9] zx3 none zx4 := zmetK zm_125 (by decide) (by decide +kernel)
theorem zx4_n : 1 ≤ zx4.2.1 := by decide +kernel
theorem zx4_1 : zx4.1 1 = some (.inr (4, [.ref 2, .ref 7, .ref 8])) := zobj_ok (by decide +kernel)
theorem zx4_2 : zx4.1 2 = some (.inr (1, [.ref 3, .ref 4, .ref 5, .ref 6, .int 1, .int 0, .int 1])) := zobj_ok (by decide +kernel)
theorem zx4_9 : ∃ p ms, zx4.1 9 = some (.inr (5, .int 1 :: p :: .int 0 :: ms)) := by
  have h : (match zx4.1 9 with | some (.inr (5, .int 1 :: _ :: .int 0 :: _)) => true | _ => false) = true := by decide +kernel
  split at h
  · rename_i p ms hw
    exact ⟨p, ms, hw⟩
  · cases h
end
section
/-! refused calls on two new objects (printed by wip/gen/ref.py) -/
theorem zm_73 : zMt[73]? = some (yX6_bar, cX6_bar, 3, (some .int), 6, false) := rfl
theorem zd_73 (pc : Nat) : zdec 73 pc = zdl_73.lookup pc := rfl
theorem zm_74 : zMt[74]? = some (yX6_begin, cX6_begin, 3, (some .int), 6, false) := rfl
theorem zd_74 (pc : Nat) : zdec 74 pc = zdl_74.lookup pc := rfl
theorem zm_76 : zMt[76]? = some (yX6_closure, cX6_closure, 4, (some .int), 6, false) := rfl
theorem zd_76 (pc : Nat) : zdec 76 pc = zdl_76.lookup pc := rfl
theorem zm_77 : zMt[77]? = some (yX6_cluster, cX6_cluster, 4, (some .int), 6, false) := rfl
theorem zd_77 (pc : Nat) : zdec 77 pc = zdl_77.lookup pc := rfl
theorem zm_78 : zMt[78]? = some (yX6_coefficient, cX6_coefficient, 5, (some .int), 6, false) := rfl
theorem zd_78 (pc : Nat) : zdec 78 pc = zdl_78.lookup pc := rfl
theorem zm_80 : zMt[80]? = some (yX6_end, cX6_end, 3, (some .int), 6, false) := rfl
theorem zd_80 (pc : Nat) : zdec 80 pc = zdl_80.lookup pc := rfl
theorem zm_82 : zMt[82]? = some (yX6_implied, cX6_implied, 6, (some .int), 6, false) := rfl
theorem zd_82 (pc : Nat) : zdec 82 pc = zdl_82.lookup pc := rfl
theorem zm_87 : zMt[87]? = some (yX6_lacks, cX6_lacks, 3, (some .int), 6, false) := rfl
theorem zd_87 (pc : Nat) : zdec 87 pc = zdl_87.lookup pc := rfl
theorem zm_90 : zMt[90]? = some (yX6_many, cX6_many, 4, (some .int), 6, false) := rfl
theorem zd_90 (pc : Nat) : zdec 90 pc = zdl_90.lookup pc := rfl
theorem zm_93 : zMt[93]? = some (yX6_rank, cX6_rank, 4, (some .int), 6, false) := rfl
theorem zd_93 (pc : Nat) : zdec 93 pc = zdl_93.lookup pc := rfl
theorem zm_94 : zMt[94]? = some (yX6_rigid, cX6_rigid, 3, (some .int), 6, false) := rfl
theorem zd_94 (pc : Nat) : zdec 94 pc = zdl_94.lookup pc := rfl
theorem zm_95 : zMt[95]? = some (yX6_sign, cX6_sign, 4, (some .int), 6, false) := rfl
theorem zd_95 (pc : Nat) : zdec 95 pc = zdl_95.lookup pc := rfl
theorem zm_96 : zMt[96]? = some (yX6_spare, cX6_spare, 3, (some .int), 6, false) := rfl
theorem zd_96 (pc : Nat) : zdec 96 pc = zdl_96.lookup pc := rfl
theorem zm_99 : zMt[99]? = some (yX6_told, cX6_told, 5, (some .int), 6, false) := rfl
theorem zd_99 (pc : Nat) : zdec 99 pc = zdl_99.lookup pc := rfl
theorem zm_104 : zMt[104]? = some (yX7_bar, cX7_bar, 7, (some .int), 7, false) := rfl
theorem zd_104 (pc : Nat) : zdec 104 pc = zdl_104.lookup pc := rfl
theorem zm_106 : zMt[106]? = some (yX7_begin, cX7_begin, 4, (some .int), 7, false) := rfl
theorem zd_106 (pc : Nat) : zdec 106 pc = zdl_106.lookup pc := rfl
theorem zm_111 : zMt[111]? = some (yX7_closure, cX7_closure, 3, (some .int), 7, false) := rfl
theorem zd_111 (pc : Nat) : zdec 111 pc = zdl_111.lookup pc := rfl
theorem zm_113 : zMt[113]? = some (yX7_cluster, cX7_cluster, 8, (some .int), 7, false) := rfl
theorem zd_113 (pc : Nat) : zdec 113 pc = zdl_113.lookup pc := rfl
theorem zm_114 : zMt[114]? = some (yX7_coefficient, cX7_coefficient, 6, (some .int), 7, false) := rfl
theorem zd_114 (pc : Nat) : zdec 114 pc = zdl_114.lookup pc := rfl
theorem zm_117 : zMt[117]? = some (yX7_end, cX7_end, 3, (some .int), 7, false) := rfl
theorem zd_117 (pc : Nat) : zdec 117 pc = zdl_117.lookup pc := rfl
theorem zm_123 : zMt[123]? = some (yX7_holds, cX7_holds, 5, (some .int), 7, false) := rfl
theorem zd_123 (pc : Nat) : zdec 123 pc = zdl_123.lookup pc := rfl
theorem zm_124 : zMt[124]? = some (yX7_implied, cX7_implied, 5, (some .int), 7, false) := rfl
theorem zd_124 (pc : Nat) : zdec 124 pc = zdl_124.lookup pc := rfl
theorem zm_142 : zMt[142]? = some (yX7_lacks, cX7_lacks, 6, (some .int), 7, false) := rfl
theorem zd_142 (pc : Nat) : zdec 142 pc = zdl_142.lookup pc := rfl
theorem zm_144 : zMt[144]? = some (yX7_many, cX7_many, 5, (some .int), 7, false) := rfl
theorem zd_144 (pc : Nat) : zdec 144 pc = zdl_144.lookup pc := rfl
theorem zm_154 : zMt[154]? = some (yX7_rank, cX7_rank, 3, (some .int), 7, false) := rfl
theorem zd_154 (pc : Nat) : zdec 154 pc = zdl_154.lookup pc := rfl
theorem zm_158 : zMt[158]? = some (yX7_rigid, cX7_rigid, 2, (some .int), 7, false) := rfl
theorem zd_158 (pc : Nat) : zdec 158 pc = zdl_158.lookup pc := rfl
theorem zm_159 : zMt[159]? = some (yX7_sign, cX7_sign, 4, (some .int), 7, false) := rfl
theorem zd_159 (pc : Nat) : zdec 159 pc = zdl_159.lookup pc := rfl
theorem zm_160 : zMt[160]? = some (yX7_spare, cX7_spare, 2, (some .int), 7, false) := rfl
theorem zd_160 (pc : Nat) : zdec 160 pc = zdl_160.lookup pc := rfl
theorem zm_166 : zMt[166]? = some (yX7_told, cX7_told, 7, (some .int), 7, false) := rfl
theorem zd_166 (pc : Nat) : zdec 166 pc = zdl_166.lookup pc := rfl
theorem zq_6_45 : zcl 6 45 = some (3, 4, 84, 2) := by decide +kernel
theorem zq_6_63 : zcl 6 63 = some (3, 1, 14, 1) := by decide +kernel
theorem zq_6_82 : zcl 6 82 = some (3, 4, 91, 1) := by decide +kernel
theorem zq_7_77 : zcl 7 77 = some (3, 5, 132, 1) := by decide +kernel
theorem zq_7_158 : zcl 7 158 = some (3, 5, 138, 1) := by decide +kernel
theorem zq_7_161 : zcl 7 161 = some (3, 5, 137, 1) := by decide +kernel
theorem zqv_6_45_4 : zclv 6 45 4 = some (3, 4, 84, 2) := by decide +kernel
theorem zqv_6_63_1 : zclv 6 63 1 = some (3, 1, 14, 1) := by decide +kernel
theorem zqv_6_82_4 : zclv 6 82 4 = some (3, 4, 91, 1) := by decide +kernel
theorem zqv_7_77_5 : zclv 7 77 5 = some (3, 5, 132, 1) := by decide +kernel
theorem zqv_7_158_5 : zclv 7 158 5 = some (3, 5, 138, 1) := by decide +kernel
theorem zqv_7_161_5 : zclv 7 161 5 = some (3, 5, 137, 1) := by decide +kernel
theorem z3 {v : Int32} (h : v < 0 ∨ 2 < v) : v < 0 ∨ (3 : Int32) ≤ v := by
  refine h.imp id fun h => ?_
  rw [Int32.lt_iff_toInt_lt] at h
  rw [Int32.le_iff_toInt_le]
  have e2 : (2 : Int32).toInt = 2 := rfl
  have e3 : (3 : Int32).toInt = 3 := rfl
  omega
theorem zany {v : Int32} : v < 0 ∨ (0 : Int32) ≤ v := by
  by_cases h : v < 0
  · exact Or.inl h
  · exact Or.inr (Int32.not_lt.mp h)
theorem zany1 {v : Int32} : v < 0 ∨ (0 : Int32) - 1 < v := by
  by_cases h : v < 0
  · exact Or.inl h
  · refine Or.inr ?_
    rw [Int32.lt_iff_toInt_lt] at h ⊢
    have e0 : (0 : Int32).toInt = 0 := rfl
    have e1 : ((0 : Int32) - 1).toInt = -1 := rfl
    omega
theorem s_rigid {d : Nat} {w : zW} {v : Int32} {q1 q2 : Value} (hX : w.1 1 = some (.inr (4, [.ref 2, q1, q2]))) (h : v < 0 ∨ 2 < v) : zmet (d + 1) 94 [.ref 1, .int v] w (some (.int (-2))) w := by
  refine ⟨_, rfl, Nat.le_of_ble_eq_true rfl, ?_⟩
  show zev (d + 1) 94 0 [some (.ref 1), some (.int v), none] [] w _ _
  refine zt (pc' := 1) ((zd_94 _).trans rfl) zm_94 rfl rfl ?_
  refine zt (pc' := 2) ((zd_94 _).trans rfl) zm_94 rfl rfl ?_
  refine zt_V (pc' := 5) ((zd_94 _).trans rfl) zm_94 rfl zq_6_82 rfl (Nat.le_of_ble_eq_true rfl) hX zqv_6_82_4 (by decide) rfl (c_matroidOf0 (z3 h)) ?_
  refine zt (pc' := 6) ((zd_94 _).trans rfl) zm_94 rfl rfl ?_
  refine zt (pc' := 7) ((zd_94 _).trans rfl) zm_94 rfl rfl ?_
  refine zt (pc' := 10) ((zd_94 _).trans rfl) zm_94 rfl rfl ?_
  refine zt (pc' := 12) ((zd_94 _).trans rfl) zm_94 rfl rfl ?_
  exact zte ((zd_94 _).trans rfl) zm_94 rfl
theorem t_rigid {d : Nat} {w : zW} {v : Int32} {ms : List Value} {pl : Value} (hM : w.1 9 = some (.inr (5, .int 1 :: pl :: .int 0 :: ms))) (h : v < 0 ∨ 2 < v) : zmet (d + 2) 158 [.ref 9, .int v] w (some (.int (-2))) w := by
  refine ⟨_, rfl, Nat.le_of_ble_eq_true rfl, ?_⟩
  show zev (d + 2) 158 0 [some (.ref 9), some (.int v)] [] w _ _
  refine zt (pc' := 1) ((zd_158 _).trans rfl) zm_158 rfl rfl ?_
  refine zt (pc' := 2) ((zd_158 _).trans rfl) zm_158 rfl rfl ?_
  refine zt_V (pc' := 5) ((zd_158 _).trans rfl) zm_158 rfl zq_7_158 rfl (Nat.le_of_ble_eq_true rfl) hM zqv_7_158_5 (by decide) rfl (c_isSort0 hM h) ?_
  refine zt_ifF (tgt := 13) (pc' := 8) ((zd_158 _).trans rfl) zm_158 rfl rfl (znne rfl) ?_
  refine zt (pc' := 10) ((zd_158 _).trans rfl) zm_158 rfl rfl ?_
  refine zt (pc' := 26) ((zd_158 _).trans rfl) zm_158 rfl rfl ?_
  exact zte ((zd_158 _).trans rfl) zm_158 rfl
theorem s_lacks {d : Nat} {w : zW} {v : Int32} {q1 q2 : Value} (hX : w.1 1 = some (.inr (4, [.ref 2, q1, q2]))) (h : v < 0 ∨ 2 < v) : zmet (d + 1) 87 [.ref 1, .int v] w (some (.int (-2))) w := by
  refine ⟨_, rfl, Nat.le_of_ble_eq_true rfl, ?_⟩
  show zev (d + 1) 87 0 [some (.ref 1), some (.int v), none] [] w _ _
  refine zt (pc' := 1) ((zd_87 _).trans rfl) zm_87 rfl rfl ?_
  refine zt (pc' := 2) ((zd_87 _).trans rfl) zm_87 rfl rfl ?_
  refine zt_V (pc' := 5) ((zd_87 _).trans rfl) zm_87 rfl zq_6_82 rfl (Nat.le_of_ble_eq_true rfl) hX zqv_6_82_4 (by decide) rfl (c_matroidOf0 (z3 h)) ?_
  refine zt (pc' := 6) ((zd_87 _).trans rfl) zm_87 rfl rfl ?_
  refine zt (pc' := 7) ((zd_87 _).trans rfl) zm_87 rfl rfl ?_
  refine zt (pc' := 10) ((zd_87 _).trans rfl) zm_87 rfl rfl ?_
  refine zt (pc' := 12) ((zd_87 _).trans rfl) zm_87 rfl rfl ?_
  exact zte ((zd_87 _).trans rfl) zm_87 rfl
theorem t_lacks {d : Nat} {w : zW} {v : Int32} {ms : List Value} {pl : Value} (hM : w.1 9 = some (.inr (5, .int 1 :: pl :: .int 0 :: ms))) (h : v < 0 ∨ 2 < v) : zmet (d + 2) 142 [.ref 9, .int v] w (some (.int (-2))) w := by
  refine ⟨_, rfl, Nat.le_of_ble_eq_true rfl, ?_⟩
  show zev (d + 2) 142 0 [some (.ref 9), some (.int v), none, none, none, none] [] w _ _
  refine zt (pc' := 1) ((zd_142 _).trans rfl) zm_142 rfl rfl ?_
  refine zt (pc' := 2) ((zd_142 _).trans rfl) zm_142 rfl rfl ?_
  refine zt_V (pc' := 5) ((zd_142 _).trans rfl) zm_142 rfl zq_7_158 rfl (Nat.le_of_ble_eq_true rfl) hM zqv_7_158_5 (by decide) rfl (c_isSort0 hM h) ?_
  refine zt_ifF (tgt := 11) (pc' := 8) ((zd_142 _).trans rfl) zm_142 rfl rfl (znne rfl) ?_
  refine zt (pc' := 10) ((zd_142 _).trans rfl) zm_142 rfl rfl ?_
  exact zte ((zd_142 _).trans rfl) zm_142 rfl
theorem s_spare {d : Nat} {w : zW} {v : Int32} {q1 q2 : Value} (hX : w.1 1 = some (.inr (4, [.ref 2, q1, q2]))) (h : v < 0 ∨ 2 < v) : zmet (d + 1) 96 [.ref 1, .int v] w (some (.int (-2))) w := by
  refine ⟨_, rfl, Nat.le_of_ble_eq_true rfl, ?_⟩
  show zev (d + 1) 96 0 [some (.ref 1), some (.int v), none] [] w _ _
  refine zt (pc' := 1) ((zd_96 _).trans rfl) zm_96 rfl rfl ?_
  refine zt (pc' := 2) ((zd_96 _).trans rfl) zm_96 rfl rfl ?_
  refine zt_V (pc' := 5) ((zd_96 _).trans rfl) zm_96 rfl zq_6_82 rfl (Nat.le_of_ble_eq_true rfl) hX zqv_6_82_4 (by decide) rfl (c_matroidOf0 (z3 h)) ?_
  refine zt (pc' := 6) ((zd_96 _).trans rfl) zm_96 rfl rfl ?_
  refine zt (pc' := 7) ((zd_96 _).trans rfl) zm_96 rfl rfl ?_
  refine zt (pc' := 10) ((zd_96 _).trans rfl) zm_96 rfl rfl ?_
  refine zt (pc' := 12) ((zd_96 _).trans rfl) zm_96 rfl rfl ?_
  exact zte ((zd_96 _).trans rfl) zm_96 rfl
theorem t_spare {d : Nat} {w : zW} {v : Int32} {ms : List Value} {pl : Value} (hM : w.1 9 = some (.inr (5, .int 1 :: pl :: .int 0 :: ms))) (h : v < 0 ∨ 2 < v) : zmet (d + 2) 160 [.ref 9, .int v] w (some (.int (-2))) w := by
  refine ⟨_, rfl, Nat.le_of_ble_eq_true rfl, ?_⟩
  show zev (d + 2) 160 0 [some (.ref 9), some (.int v)] [] w _ _
  refine zt (pc' := 1) ((zd_160 _).trans rfl) zm_160 rfl rfl ?_
  refine zt (pc' := 2) ((zd_160 _).trans rfl) zm_160 rfl rfl ?_
  refine zt_V (pc' := 5) ((zd_160 _).trans rfl) zm_160 rfl zq_7_158 rfl (Nat.le_of_ble_eq_true rfl) hM zqv_7_158_5 (by decide) rfl (c_isSort0 hM h) ?_
  refine zt_ifT (tgt := 16) (pc' := 8) ((zd_160 _).trans rfl) zm_160 rfl rfl (zeq rfl) ?_
  refine zt (pc' := 18) ((zd_160 _).trans rfl) zm_160 rfl rfl ?_
  exact zte ((zd_160 _).trans rfl) zm_160 rfl
theorem s_rank {d : Nat} {w : zW} {v b : Int32} {q1 q2 : Value} (hX : w.1 1 = some (.inr (4, [.ref 2, q1, q2]))) (h : v < 0 ∨ 2 < v) : zmet (d + 1) 93 [.ref 1, .int v, .int b] w (some (.int (-2))) w := by
  refine ⟨_, rfl, Nat.le_of_ble_eq_true rfl, ?_⟩
  show zev (d + 1) 93 0 [some (.ref 1), some (.int v), some (.int b), none] [] w _ _
  refine zt (pc' := 1) ((zd_93 _).trans rfl) zm_93 rfl rfl ?_
  refine zt (pc' := 2) ((zd_93 _).trans rfl) zm_93 rfl rfl ?_
  refine zt_V (pc' := 5) ((zd_93 _).trans rfl) zm_93 rfl zq_6_82 rfl (Nat.le_of_ble_eq_true rfl) hX zqv_6_82_4 (by decide) rfl (c_matroidOf0 (z3 h)) ?_
  refine zt (pc' := 6) ((zd_93 _).trans rfl) zm_93 rfl rfl ?_
  refine zt (pc' := 7) ((zd_93 _).trans rfl) zm_93 rfl rfl ?_
  refine zt (pc' := 21) ((zd_93 _).trans rfl) zm_93 rfl rfl ?_
  refine zt (pc' := 23) ((zd_93 _).trans rfl) zm_93 rfl rfl ?_
  exact zte ((zd_93 _).trans rfl) zm_93 rfl
theorem t_rank {d : Nat} {w : zW} {v b : Int32} {ms : List Value} {pl : Value} (hM : w.1 9 = some (.inr (5, .int 1 :: pl :: .int 0 :: ms))) (h : v < 0 ∨ 2 < v) : zmet (d + 2) 154 [.ref 9, .int v, .int b] w (some (.int (-2))) w := by
  refine ⟨_, rfl, Nat.le_of_ble_eq_true rfl, ?_⟩
  show zev (d + 2) 154 0 [some (.ref 9), some (.int v), some (.int b)] [] w _ _
  refine zt (pc' := 1) ((zd_154 _).trans rfl) zm_154 rfl rfl ?_
  refine zt (pc' := 2) ((zd_154 _).trans rfl) zm_154 rfl rfl ?_
  refine zt_V (pc' := 5) ((zd_154 _).trans rfl) zm_154 rfl zq_7_158 rfl (Nat.le_of_ble_eq_true rfl) hM zqv_7_158_5 (by decide) rfl (c_isSort0 hM h) ?_
  refine zt_ifT (tgt := 25) (pc' := 8) ((zd_154 _).trans rfl) zm_154 rfl rfl (zeq rfl) ?_
  refine zt (pc' := 27) ((zd_154 _).trans rfl) zm_154 rfl rfl ?_
  exact zte ((zd_154 _).trans rfl) zm_154 rfl
theorem s_closure {d : Nat} {w : zW} {v b : Int32} {q1 q2 : Value} (hX : w.1 1 = some (.inr (4, [.ref 2, q1, q2]))) (h : v < 0 ∨ 2 < v) : zmet (d + 1) 76 [.ref 1, .int v, .int b] w (some (.int (-2))) w := by
  refine ⟨_, rfl, Nat.le_of_ble_eq_true rfl, ?_⟩
  show zev (d + 1) 76 0 [some (.ref 1), some (.int v), some (.int b), none] [] w _ _
  refine zt (pc' := 1) ((zd_76 _).trans rfl) zm_76 rfl rfl ?_
  refine zt (pc' := 2) ((zd_76 _).trans rfl) zm_76 rfl rfl ?_
  refine zt_V (pc' := 5) ((zd_76 _).trans rfl) zm_76 rfl zq_6_82 rfl (Nat.le_of_ble_eq_true rfl) hX zqv_6_82_4 (by decide) rfl (c_matroidOf0 (z3 h)) ?_
  refine zt (pc' := 6) ((zd_76 _).trans rfl) zm_76 rfl rfl ?_
  refine zt (pc' := 7) ((zd_76 _).trans rfl) zm_76 rfl rfl ?_
  refine zt (pc' := 21) ((zd_76 _).trans rfl) zm_76 rfl rfl ?_
  refine zt (pc' := 23) ((zd_76 _).trans rfl) zm_76 rfl rfl ?_
  exact zte ((zd_76 _).trans rfl) zm_76 rfl
theorem t_closure {d : Nat} {w : zW} {v b : Int32} {ms : List Value} {pl : Value} (hM : w.1 9 = some (.inr (5, .int 1 :: pl :: .int 0 :: ms))) (h : v < 0 ∨ 2 < v) : zmet (d + 2) 111 [.ref 9, .int v, .int b] w (some (.int (-2))) w := by
  refine ⟨_, rfl, Nat.le_of_ble_eq_true rfl, ?_⟩
  show zev (d + 2) 111 0 [some (.ref 9), some (.int v), some (.int b)] [] w _ _
  refine zt (pc' := 1) ((zd_111 _).trans rfl) zm_111 rfl rfl ?_
  refine zt (pc' := 2) ((zd_111 _).trans rfl) zm_111 rfl rfl ?_
  refine zt_V (pc' := 5) ((zd_111 _).trans rfl) zm_111 rfl zq_7_158 rfl (Nat.le_of_ble_eq_true rfl) hM zqv_7_158_5 (by decide) rfl (c_isSort0 hM h) ?_
  refine zt_ifT (tgt := 25) (pc' := 8) ((zd_111 _).trans rfl) zm_111 rfl rfl (zeq rfl) ?_
  refine zt (pc' := 27) ((zd_111 _).trans rfl) zm_111 rfl rfl ?_
  exact zte ((zd_111 _).trans rfl) zm_111 rfl
theorem s_implied {d : Nat} {w : zW} {v a b c : Int32} {q1 q2 : Value} (hX : w.1 1 = some (.inr (4, [.ref 2, q1, q2]))) (h : v < 0 ∨ 2 < v) : zmet (d + 1) 82 [.ref 1, .int v, .int a, .int b, .int c] w (some (.int (-2))) w := by
  refine ⟨_, rfl, Nat.le_of_ble_eq_true rfl, ?_⟩
  show zev (d + 1) 82 0 [some (.ref 1), some (.int v), some (.int a), some (.int b), some (.int c), none] [] w _ _
  refine zt (pc' := 1) ((zd_82 _).trans rfl) zm_82 rfl rfl ?_
  refine zt (pc' := 2) ((zd_82 _).trans rfl) zm_82 rfl rfl ?_
  refine zt_V (pc' := 5) ((zd_82 _).trans rfl) zm_82 rfl zq_6_82 rfl (Nat.le_of_ble_eq_true rfl) hX zqv_6_82_4 (by decide) rfl (c_matroidOf0 (z3 h)) ?_
  refine zt (pc' := 7) ((zd_82 _).trans rfl) zm_82 rfl rfl ?_
  refine zt (pc' := 9) ((zd_82 _).trans rfl) zm_82 rfl rfl ?_
  refine zt (pc' := 33) ((zd_82 _).trans rfl) zm_82 rfl rfl ?_
  refine zt (pc' := 35) ((zd_82 _).trans rfl) zm_82 rfl rfl ?_
  exact zte ((zd_82 _).trans rfl) zm_82 rfl
theorem t_implied {d : Nat} {w : zW} {v a b c : Int32} {ms : List Value} {pl : Value} (hM : w.1 9 = some (.inr (5, .int 1 :: pl :: .int 0 :: ms))) (h : v < 0 ∨ 2 < v) : zmet (d + 2) 124 [.ref 9, .int v, .int a, .int b, .int c] w (some (.int (-2))) w := by
  refine ⟨_, rfl, Nat.le_of_ble_eq_true rfl, ?_⟩
  show zev (d + 2) 124 0 [some (.ref 9), some (.int v), some (.int a), some (.int b), some (.int c)] [] w _ _
  refine zt (pc' := 1) ((zd_124 _).trans rfl) zm_124 rfl rfl ?_
  refine zt (pc' := 2) ((zd_124 _).trans rfl) zm_124 rfl rfl ?_
  refine zt_V (pc' := 5) ((zd_124 _).trans rfl) zm_124 rfl zq_7_158 rfl (Nat.le_of_ble_eq_true rfl) hM zqv_7_158_5 (by decide) rfl (c_isSort0 hM h) ?_
  refine zt_ifT (tgt := 38) (pc' := 8) ((zd_124 _).trans rfl) zm_124 rfl rfl (zeq rfl) ?_
  refine zt (pc' := 40) ((zd_124 _).trans rfl) zm_124 rfl rfl ?_
  exact zte ((zd_124 _).trans rfl) zm_124 rfl
theorem s_many {d : Nat} {w : zW} {v b : Int32} {q1 q2 : Value} (hX : w.1 1 = some (.inr (4, [.ref 2, q1, q2]))) (h : v < 0 ∨ 2 < v) : zmet (d + 1) 90 [.ref 1, .int v, .int b] w (some (.int (-2))) w := by
  refine ⟨_, rfl, Nat.le_of_ble_eq_true rfl, ?_⟩
  show zev (d + 1) 90 0 [some (.ref 1), some (.int v), some (.int b), none] [] w _ _
  refine zt (pc' := 1) ((zd_90 _).trans rfl) zm_90 rfl rfl ?_
  refine zt (pc' := 2) ((zd_90 _).trans rfl) zm_90 rfl rfl ?_
  refine zt_V (pc' := 5) ((zd_90 _).trans rfl) zm_90 rfl zq_6_82 rfl (Nat.le_of_ble_eq_true rfl) hX zqv_6_82_4 (by decide) rfl (c_matroidOf0 (z3 h)) ?_
  refine zt (pc' := 6) ((zd_90 _).trans rfl) zm_90 rfl rfl ?_
  refine zt (pc' := 7) ((zd_90 _).trans rfl) zm_90 rfl rfl ?_
  refine zt (pc' := 20) ((zd_90 _).trans rfl) zm_90 rfl rfl ?_
  refine zt (pc' := 22) ((zd_90 _).trans rfl) zm_90 rfl rfl ?_
  exact zte ((zd_90 _).trans rfl) zm_90 rfl
theorem t_many {d : Nat} {w : zW} {v b : Int32} {ms : List Value} {pl : Value} (hM : w.1 9 = some (.inr (5, .int 1 :: pl :: .int 0 :: ms))) (h : v < 0 ∨ 2 < v) : zmet (d + 2) 144 [.ref 9, .int v, .int b] w (some (.int (-2))) w := by
  refine ⟨_, rfl, Nat.le_of_ble_eq_true rfl, ?_⟩
  show zev (d + 2) 144 0 [some (.ref 9), some (.int v), some (.int b), none, none] [] w _ _
  refine zt (pc' := 1) ((zd_144 _).trans rfl) zm_144 rfl rfl ?_
  refine zt (pc' := 2) ((zd_144 _).trans rfl) zm_144 rfl rfl ?_
  refine zt_V (pc' := 5) ((zd_144 _).trans rfl) zm_144 rfl zq_7_158 rfl (Nat.le_of_ble_eq_true rfl) hM zqv_7_158_5 (by decide) rfl (c_isSort0 hM h) ?_
  refine zt_ifT (tgt := 18) (pc' := 8) ((zd_144 _).trans rfl) zm_144 rfl rfl (zeq rfl) ?_
  refine zt (pc' := 20) ((zd_144 _).trans rfl) zm_144 rfl rfl ?_
  exact zte ((zd_144 _).trans rfl) zm_144 rfl
theorem s_told {d : Nat} {w : zW} {v b c : Int32} {q1 q2 : Value} (hX : w.1 1 = some (.inr (4, [.ref 2, q1, q2]))) (h : v < 0 ∨ 2 < v) : zmet (d + 1) 99 [.ref 1, .int v, .int b, .int c] w (some (.int (-2))) w := by
  refine ⟨_, rfl, Nat.le_of_ble_eq_true rfl, ?_⟩
  show zev (d + 1) 99 0 [some (.ref 1), some (.int v), some (.int b), some (.int c), none] [] w _ _
  refine zt (pc' := 1) ((zd_99 _).trans rfl) zm_99 rfl rfl ?_
  refine zt (pc' := 2) ((zd_99 _).trans rfl) zm_99 rfl rfl ?_
  refine zt_V (pc' := 5) ((zd_99 _).trans rfl) zm_99 rfl zq_6_82 rfl (Nat.le_of_ble_eq_true rfl) hX zqv_6_82_4 (by decide) rfl (c_matroidOf0 (z3 h)) ?_
  refine zt (pc' := 7) ((zd_99 _).trans rfl) zm_99 rfl rfl ?_
  refine zt (pc' := 9) ((zd_99 _).trans rfl) zm_99 rfl rfl ?_
  refine zt (pc' := 22) ((zd_99 _).trans rfl) zm_99 rfl rfl ?_
  refine zt (pc' := 24) ((zd_99 _).trans rfl) zm_99 rfl rfl ?_
  exact zte ((zd_99 _).trans rfl) zm_99 rfl
theorem t_told {d : Nat} {w : zW} {v b c : Int32} {ms : List Value} {pl : Value} (hM : w.1 9 = some (.inr (5, .int 1 :: pl :: .int 0 :: ms))) (h : v < 0 ∨ 2 < v) : zmet (d + 2) 166 [.ref 9, .int v, .int b, .int c] w (some (.int (-2))) w := by
  refine ⟨_, rfl, Nat.le_of_ble_eq_true rfl, ?_⟩
  show zev (d + 2) 166 0 [some (.ref 9), some (.int v), some (.int b), some (.int c), none, none, none] [] w _ _
  refine zt (pc' := 1) ((zd_166 _).trans rfl) zm_166 rfl rfl ?_
  refine zt (pc' := 2) ((zd_166 _).trans rfl) zm_166 rfl rfl ?_
  refine zt_V (pc' := 5) ((zd_166 _).trans rfl) zm_166 rfl zq_7_158 rfl (Nat.le_of_ble_eq_true rfl) hM zqv_7_158_5 (by decide) rfl (c_isSort0 hM h) ?_
  refine zt_ifT (tgt := 18) (pc' := 8) ((zd_166 _).trans rfl) zm_166 rfl rfl (zeq rfl) ?_
  refine zt (pc' := 20) ((zd_166 _).trans rfl) zm_166 rfl rfl ?_
  exact zte ((zd_166 _).trans rfl) zm_166 rfl
theorem s_coefficient {d : Nat} {w : zW} {v b c : Int32} {q1 q2 : Value} (hX : w.1 1 = some (.inr (4, [.ref 2, q1, q2]))) (h : v < 0 ∨ 2 < v) : zmet (d + 1) 78 [.ref 1, .int v, .int b, .int c] w (some (.int (-2))) w := by
  refine ⟨_, rfl, Nat.le_of_ble_eq_true rfl, ?_⟩
  show zev (d + 1) 78 0 [some (.ref 1), some (.int v), some (.int b), some (.int c), none] [] w _ _
  refine zt (pc' := 1) ((zd_78 _).trans rfl) zm_78 rfl rfl ?_
  refine zt (pc' := 2) ((zd_78 _).trans rfl) zm_78 rfl rfl ?_
  refine zt_V (pc' := 5) ((zd_78 _).trans rfl) zm_78 rfl zq_6_82 rfl (Nat.le_of_ble_eq_true rfl) hX zqv_6_82_4 (by decide) rfl (c_matroidOf0 (z3 h)) ?_
  refine zt (pc' := 7) ((zd_78 _).trans rfl) zm_78 rfl rfl ?_
  refine zt (pc' := 9) ((zd_78 _).trans rfl) zm_78 rfl rfl ?_
  refine zt (pc' := 12) ((zd_78 _).trans rfl) zm_78 rfl rfl ?_
  refine zt (pc' := 14) ((zd_78 _).trans rfl) zm_78 rfl rfl ?_
  exact zte ((zd_78 _).trans rfl) zm_78 rfl
theorem t_coefficient {d : Nat} {w : zW} {v b c : Int32} {ms : List Value} {pl : Value} (hM : w.1 9 = some (.inr (5, .int 1 :: pl :: .int 0 :: ms))) (h : v < 0 ∨ 2 < v) : zmet (d + 2) 114 [.ref 9, .int v, .int b, .int c] w (some (.int (-2))) w := by
  refine ⟨_, rfl, Nat.le_of_ble_eq_true rfl, ?_⟩
  show zev (d + 2) 114 0 [some (.ref 9), some (.int v), some (.int b), some (.int c), none, none] [] w _ _
  refine zt (pc' := 1) ((zd_114 _).trans rfl) zm_114 rfl rfl ?_
  refine zt (pc' := 2) ((zd_114 _).trans rfl) zm_114 rfl rfl ?_
  refine zt_V (pc' := 5) ((zd_114 _).trans rfl) zm_114 rfl zq_7_158 rfl (Nat.le_of_ble_eq_true rfl) hM zqv_7_158_5 (by decide) rfl (c_isSort0 hM h) ?_
  refine zt_ifF (tgt := 11) (pc' := 8) ((zd_114 _).trans rfl) zm_114 rfl rfl (znne rfl) ?_
  refine zt (pc' := 10) ((zd_114 _).trans rfl) zm_114 rfl rfl ?_
  exact zte ((zd_114 _).trans rfl) zm_114 rfl
theorem s_cluster {d : Nat} {w : zW} {v b : Int32} {q1 q2 : Value} (hX : w.1 1 = some (.inr (4, [.ref 2, q1, q2]))) (h : v < 0 ∨ 2 < v) : zmet (d + 1) 77 [.ref 1, .int v, .int b] w (some (.int (-2))) w := by
  refine ⟨_, rfl, Nat.le_of_ble_eq_true rfl, ?_⟩
  show zev (d + 1) 77 0 [some (.ref 1), some (.int v), some (.int b), none] [] w _ _
  refine zt (pc' := 1) ((zd_77 _).trans rfl) zm_77 rfl rfl ?_
  refine zt (pc' := 2) ((zd_77 _).trans rfl) zm_77 rfl rfl ?_
  refine zt_V (pc' := 5) ((zd_77 _).trans rfl) zm_77 rfl zq_6_82 rfl (Nat.le_of_ble_eq_true rfl) hX zqv_6_82_4 (by decide) rfl (c_matroidOf0 (z3 h)) ?_
  refine zt (pc' := 6) ((zd_77 _).trans rfl) zm_77 rfl rfl ?_
  refine zt (pc' := 7) ((zd_77 _).trans rfl) zm_77 rfl rfl ?_
  refine zt (pc' := 10) ((zd_77 _).trans rfl) zm_77 rfl rfl ?_
  refine zt (pc' := 12) ((zd_77 _).trans rfl) zm_77 rfl rfl ?_
  exact zte ((zd_77 _).trans rfl) zm_77 rfl
theorem t_cluster {d : Nat} {w : zW} {v b : Int32} {ms : List Value} {pl : Value} (hM : w.1 9 = some (.inr (5, .int 1 :: pl :: .int 0 :: ms))) (h : v < 0 ∨ 2 < v) : zmet (d + 2) 113 [.ref 9, .int v, .int b] w (some (.int (-2))) w := by
  refine ⟨_, rfl, Nat.le_of_ble_eq_true rfl, ?_⟩
  show zev (d + 2) 113 0 [some (.ref 9), some (.int v), some (.int b), none, none, none, none, none] [] w _ _
  refine zt (pc' := 1) ((zd_113 _).trans rfl) zm_113 rfl rfl ?_
  refine zt (pc' := 2) ((zd_113 _).trans rfl) zm_113 rfl rfl ?_
  refine zt_V (pc' := 5) ((zd_113 _).trans rfl) zm_113 rfl zq_7_158 rfl (Nat.le_of_ble_eq_true rfl) hM zqv_7_158_5 (by decide) rfl (c_isSort0 hM h) ?_
  refine zt_ifF (tgt := 11) (pc' := 8) ((zd_113 _).trans rfl) zm_113 rfl rfl (znne rfl) ?_
  refine zt (pc' := 10) ((zd_113 _).trans rfl) zm_113 rfl rfl ?_
  exact zte ((zd_113 _).trans rfl) zm_113 rfl
theorem t_holds {d : Nat} {w : zW} {v : Int32} {ms : List Value} {pl : Value} (hM : w.1 9 = some (.inr (5, .int 1 :: pl :: .int 0 :: ms))) (h : v < 0 ∨ 2 < v) : zmet (d + 2) 123 [.ref 9, .int v] w (some (.int (-2))) w := by
  refine ⟨_, rfl, Nat.le_of_ble_eq_true rfl, ?_⟩
  show zev (d + 2) 123 0 [some (.ref 9), some (.int v), none, none, none] [] w _ _
  refine zt (pc' := 1) ((zd_123 _).trans rfl) zm_123 rfl rfl ?_
  refine zt (pc' := 2) ((zd_123 _).trans rfl) zm_123 rfl rfl ?_
  refine zt_V (pc' := 5) ((zd_123 _).trans rfl) zm_123 rfl zq_7_158 rfl (Nat.le_of_ble_eq_true rfl) hM zqv_7_158_5 (by decide) rfl (c_isSort0 hM h) ?_
  refine zt_ifT (tgt := 13) (pc' := 8) ((zd_123 _).trans rfl) zm_123 rfl rfl (zeq rfl) ?_
  refine zt (pc' := 15) ((zd_123 _).trans rfl) zm_123 rfl rfl ?_
  exact zte ((zd_123 _).trans rfl) zm_123 rfl
theorem s_sign {d : Nat} {w : zW} {a b : Int32} {q1 q2 : Value} (hX : w.1 1 = some (.inr (4, [.ref 2, q1, q2]))) {p0 p1 p2 p3 : Value} {ve : Int32} (hF : w.1 2 = some (.inr (1, [p0, p1, p2, p3, .int 1, .int 0, .int ve]))) : zmet (d + 1) 95 [.ref 1, .int a, .int b] w (some (.int (-2))) w := by
  refine ⟨_, rfl, Nat.le_of_ble_eq_true rfl, ?_⟩
  show zev (d + 1) 95 0 [some (.ref 1), some (.int a), some (.int b), none] [] w _ _
  refine zt (pc' := 1) ((zd_95 _).trans rfl) zm_95 rfl rfl ?_
  refine zt_get (pc' := 4) ((zd_95 _).trans rfl) zm_95 rfl rfl hX (by decide) rfl ?_
  refine zt (pc' := 5) ((zd_95 _).trans rfl) zm_95 rfl rfl ?_
  refine zt_V (pc' := 8) ((zd_95 _).trans rfl) zm_95 rfl zq_6_63 rfl (Nat.le_of_ble_eq_true rfl) hF zqv_6_63_1 (by decide) rfl (c_hasBar0 hF zany) ?_
  refine zt_ifT (tgt := 21) (pc' := 11) ((zd_95 _).trans rfl) zm_95 rfl rfl (zeq rfl) ?_
  refine zt (pc' := 23) ((zd_95 _).trans rfl) zm_95 rfl rfl ?_
  exact zte ((zd_95 _).trans rfl) zm_95 rfl
theorem t_sign {d : Nat} {w : zW} {a b : Int32} {ms : List Value} {pl : Value} (hM : w.1 9 = some (.inr (5, .int 1 :: pl :: .int 0 :: ms))) : zmet (d + 1) 159 [.ref 9, .int a, .int b] w (some (.int (-2))) w := by
  refine ⟨_, rfl, Nat.le_of_ble_eq_true rfl, ?_⟩
  show zev (d + 1) 159 0 [some (.ref 9), some (.int a), some (.int b), none] [] w _ _
  refine zt (pc' := 1) ((zd_159 _).trans rfl) zm_159 rfl rfl ?_
  refine zt (pc' := 2) ((zd_159 _).trans rfl) zm_159 rfl rfl ?_
  refine zt (pc' := 3) ((zd_159 _).trans rfl) zm_159 rfl rfl ?_
  refine zt_get (pc' := 6) ((zd_159 _).trans rfl) zm_159 rfl rfl hM (by decide) rfl ?_
  refine zt (pc' := 7) ((zd_159 _).trans rfl) zm_159 rfl rfl ?_
  refine zt (pc' := 8) ((zd_159 _).trans rfl) zm_159 rfl rfl ?_
  refine zt_S (pc' := 11) ((zd_159 _).trans rfl) zm_159 rfl zq_7_70 (Nat.le_of_ble_eq_true rfl) (Nat.le_of_ble_eq_true rfl) rfl (c_isIn0 zany1) ?_
  refine zt_ifT (tgt := 23) (pc' := 14) ((zd_159 _).trans rfl) zm_159 rfl rfl (zeq rfl) ?_
  refine zt (pc' := 25) ((zd_159 _).trans rfl) zm_159 rfl rfl ?_
  exact zte ((zd_159 _).trans rfl) zm_159 rfl
theorem s_end {d : Nat} {w : zW} {a b : Int32} {q1 q2 : Value} (hX : w.1 1 = some (.inr (4, [.ref 2, q1, q2]))) {p0 p1 p2 p3 : Value} {ve : Int32} (hF : w.1 2 = some (.inr (1, [p0, p1, p2, p3, .int 1, .int 0, .int ve]))) : zmet (d + 1) 80 [.ref 1, .int a, .int b] w (some (.int (-2))) w := by
  refine ⟨_, rfl, Nat.le_of_ble_eq_true rfl, ?_⟩
  show zev (d + 1) 80 0 [some (.ref 1), some (.int a), some (.int b)] [] w _ _
  refine zt (pc' := 1) ((zd_80 _).trans rfl) zm_80 rfl rfl ?_
  refine zt_get (pc' := 4) ((zd_80 _).trans rfl) zm_80 rfl rfl hX (by decide) rfl ?_
  refine zt (pc' := 5) ((zd_80 _).trans rfl) zm_80 rfl rfl ?_
  refine zt_V (pc' := 8) ((zd_80 _).trans rfl) zm_80 rfl zq_6_63 rfl (Nat.le_of_ble_eq_true rfl) hF zqv_6_63_1 (by decide) rfl (c_hasBar0 hF zany) ?_
  refine zt_ifT (tgt := 20) (pc' := 11) ((zd_80 _).trans rfl) zm_80 rfl rfl (zeq rfl) ?_
  refine zt (pc' := 22) ((zd_80 _).trans rfl) zm_80 rfl rfl ?_
  exact zte ((zd_80 _).trans rfl) zm_80 rfl
theorem t_end {d : Nat} {w : zW} {a b : Int32} {ms : List Value} {pl : Value} (hM : w.1 9 = some (.inr (5, .int 1 :: pl :: .int 0 :: ms))) : zmet (d + 1) 117 [.ref 9, .int a, .int b] w (some (.int (-2))) w := by
  refine ⟨_, rfl, Nat.le_of_ble_eq_true rfl, ?_⟩
  show zev (d + 1) 117 0 [some (.ref 9), some (.int a), some (.int b)] [] w _ _
  refine zt (pc' := 1) ((zd_117 _).trans rfl) zm_117 rfl rfl ?_
  refine zt (pc' := 2) ((zd_117 _).trans rfl) zm_117 rfl rfl ?_
  refine zt (pc' := 3) ((zd_117 _).trans rfl) zm_117 rfl rfl ?_
  refine zt_get (pc' := 6) ((zd_117 _).trans rfl) zm_117 rfl rfl hM (by decide) rfl ?_
  refine zt (pc' := 7) ((zd_117 _).trans rfl) zm_117 rfl rfl ?_
  refine zt (pc' := 8) ((zd_117 _).trans rfl) zm_117 rfl rfl ?_
  refine zt_S (pc' := 11) ((zd_117 _).trans rfl) zm_117 rfl zq_7_70 (Nat.le_of_ble_eq_true rfl) (Nat.le_of_ble_eq_true rfl) rfl (c_isIn0 zany1) ?_
  refine zt_ifT (tgt := 23) (pc' := 14) ((zd_117 _).trans rfl) zm_117 rfl rfl (zeq rfl) ?_
  refine zt (pc' := 25) ((zd_117 _).trans rfl) zm_117 rfl rfl ?_
  exact zte ((zd_117 _).trans rfl) zm_117 rfl
theorem s_begin {d : Nat} {w : zW} {v : Int32} (h : v < 1 ∨ 7 < v) : zmet (d) 74 [.ref 1, .int v] w (some (.int (-2))) w := by
  refine ⟨_, rfl, Nat.le_of_ble_eq_true rfl, ?_⟩
  show zev (d) 74 0 [some (.ref 1), some (.int v), none] [] w _ _
  by_cases h1 : v < 1
  · refine zt (pc' := 1) ((zd_74 _).trans rfl) zm_74 rfl rfl ?_
    refine zt (pc' := 2) ((zd_74 _).trans rfl) zm_74 rfl rfl ?_
    refine zt_icT (tgt := 11) (pc' := 5) ((zd_74 _).trans rfl) zm_74 rfl rfl (zlt h1) ?_
    refine zt (pc' := 13) ((zd_74 _).trans rfl) zm_74 rfl rfl ?_
    exact zte ((zd_74 _).trans rfl) zm_74 rfl
  · have h2 : ¬ v ≤ 7 := Int32.not_le.mpr (h.resolve_left h1)
    refine zt (pc' := 1) ((zd_74 _).trans rfl) zm_74 rfl rfl ?_
    refine zt (pc' := 2) ((zd_74 _).trans rfl) zm_74 rfl rfl ?_
    refine zt_icF (tgt := 11) (pc' := 5) ((zd_74 _).trans rfl) zm_74 rfl rfl (znlt h1) ?_
    refine zt (pc' := 6) ((zd_74 _).trans rfl) zm_74 rfl rfl ?_
    refine zt (pc' := 8) ((zd_74 _).trans rfl) zm_74 rfl rfl ?_
    refine zt_icF (tgt := 14) (pc' := 11) ((zd_74 _).trans rfl) zm_74 rfl rfl (znle h2) ?_
    refine zt (pc' := 13) ((zd_74 _).trans rfl) zm_74 rfl rfl ?_
    exact zte ((zd_74 _).trans rfl) zm_74 rfl
theorem t_begin {d : Nat} {w : zW} {v : Int32} (h : v < 1 ∨ 7 < v) : zmet (d + 1) 106 [.ref 9, .int v] w (some (.int (-2))) w := by
  refine ⟨_, rfl, Nat.le_of_ble_eq_true rfl, ?_⟩
  show zev (d + 1) 106 0 [some (.ref 9), some (.int v), none, none] [] w _ _
  refine zt (pc' := 1) ((zd_106 _).trans rfl) zm_106 rfl rfl ?_
  refine zt (pc' := 2) ((zd_106 _).trans rfl) zm_106 rfl rfl ?_
  refine zt (pc' := 4) ((zd_106 _).trans rfl) zm_106 rfl rfl ?_
  refine zt_S (pc' := 7) ((zd_106 _).trans rfl) zm_106 rfl zq_7_70 (Nat.le_of_ble_eq_true rfl) (Nat.le_of_ble_eq_true rfl) rfl (c_isIn0 h) ?_
  refine zt_ifF (tgt := 13) (pc' := 10) ((zd_106 _).trans rfl) zm_106 rfl rfl (znne rfl) ?_
  refine zt (pc' := 12) ((zd_106 _).trans rfl) zm_106 rfl rfl ?_
  exact zte ((zd_106 _).trans rfl) zm_106 rfl
theorem s_bar {d : Nat} {w : zW} {a b : Int32} {q1 q2 : Value} (hX : w.1 1 = some (.inr (4, [.ref 2, q1, q2]))) {p0 p1 p2 p3 : Value} {ve : Int32} (hF : w.1 2 = some (.inr (1, [p0, p1, p2, p3, .int 1, .int 0, .int ve]))) : zmet (d + 2) 73 [.ref 1, .int a, .int b] w (some (.int (-2))) w := by
  refine ⟨_, rfl, Nat.le_of_ble_eq_true rfl, ?_⟩
  show zev (d + 2) 73 0 [some (.ref 1), some (.int a), some (.int b)] [] w _ _
  refine zt (pc' := 1) ((zd_73 _).trans rfl) zm_73 rfl rfl ?_
  refine zt (pc' := 2) ((zd_73 _).trans rfl) zm_73 rfl rfl ?_
  refine zt (pc' := 3) ((zd_73 _).trans rfl) zm_73 rfl rfl ?_
  refine zt_V (pc' := 6) ((zd_73 _).trans rfl) zm_73 rfl zq_6_45 rfl (Nat.le_of_ble_eq_true rfl) hX zqv_6_45_4 (by decide) rfl (c_isPair0 hX hF) ?_
  refine zt_ifF (tgt := 12) (pc' := 9) ((zd_73 _).trans rfl) zm_73 rfl rfl (znne rfl) ?_
  refine zt (pc' := 11) ((zd_73 _).trans rfl) zm_73 rfl rfl ?_
  exact zte ((zd_73 _).trans rfl) zm_73 rfl
theorem z02 {v : Int32} (h1 : ¬ v < 0) (h2 : ¬ (1 : Int32) - 1 < v) : v = 0 := by
  rw [Int32.lt_iff_toInt_lt] at h1 h2
  have e0 : (0 : Int32).toInt = 0 := rfl
  have e1 : ((1 : Int32) - 1).toInt = 0 := rfl
  exact Int32.toInt_inj.mp (by omega)
theorem t_bar {d : Nat} {w : zW} {a b : Int32} {ms : List Value} {pl : Value} (hM : w.1 9 = some (.inr (5, .int 1 :: pl :: .int 0 :: ms))) : zmet (d + 2) 104 [.ref 9, .int a, .int b] w (some (.int (-2))) w := by
  refine ⟨_, rfl, Nat.le_of_ble_eq_true rfl, ?_⟩
  show zev (d + 2) 104 0 [some (.ref 9), some (.int a), some (.int b), none, none, none, none] [] w _ _
  by_cases ha : a < 0 ∨ (1 : Int32) - 1 < a
  · refine zt (pc' := 1) ((zd_104 _).trans rfl) zm_104 rfl rfl ?_
    refine zt (pc' := 2) ((zd_104 _).trans rfl) zm_104 rfl rfl ?_
    refine zt_V (pc' := 5) ((zd_104 _).trans rfl) zm_104 rfl zq_7_77 rfl (Nat.le_of_ble_eq_true rfl) hM zqv_7_77_5 (by decide) rfl (c_isJoint0 hM ha) ?_
    refine zt_ifT (tgt := 21) (pc' := 8) ((zd_104 _).trans rfl) zm_104 rfl rfl (zeq rfl) ?_
    refine zt (pc' := 23) ((zd_104 _).trans rfl) zm_104 rfl rfl ?_
    exact zte ((zd_104 _).trans rfl) zm_104 rfl
  · have ha1 : ¬ a < 0 := fun h => ha (Or.inl h)
    have ha2 : ¬ (1 : Int32) - 1 < a := fun h => ha (Or.inr h)
    by_cases hb : b < 0 ∨ (1 : Int32) - 1 < b
    · refine zt (pc' := 1) ((zd_104 _).trans rfl) zm_104 rfl rfl ?_
      refine zt (pc' := 2) ((zd_104 _).trans rfl) zm_104 rfl rfl ?_
      refine zt_V (pc' := 5) ((zd_104 _).trans rfl) zm_104 rfl zq_7_77 rfl (Nat.le_of_ble_eq_true rfl) hM zqv_7_77_5 (by decide) rfl (c_isJoint1 hM ha1 ha2) ?_
      refine zt_ifF (tgt := 21) (pc' := 8) ((zd_104 _).trans rfl) zm_104 rfl rfl (zneq (by decide)) ?_
      refine zt (pc' := 9) ((zd_104 _).trans rfl) zm_104 rfl rfl ?_
      refine zt (pc' := 10) ((zd_104 _).trans rfl) zm_104 rfl rfl ?_
      refine zt_V (pc' := 13) ((zd_104 _).trans rfl) zm_104 rfl zq_7_77 rfl (Nat.le_of_ble_eq_true rfl) hM zqv_7_77_5 (by decide) rfl (c_isJoint0 hM hb) ?_
      refine zt_ifT (tgt := 21) (pc' := 16) ((zd_104 _).trans rfl) zm_104 rfl rfl (zeq rfl) ?_
      refine zt (pc' := 23) ((zd_104 _).trans rfl) zm_104 rfl rfl ?_
      exact zte ((zd_104 _).trans rfl) zm_104 rfl
    · have hb1 : ¬ b < 0 := fun h => hb (Or.inl h)
      have hb2 : ¬ (1 : Int32) - 1 < b := fun h => hb (Or.inr h)
      have hab : a = b := (z02 ha1 ha2).trans (z02 hb1 hb2).symm
      refine zt (pc' := 1) ((zd_104 _).trans rfl) zm_104 rfl rfl ?_
      refine zt (pc' := 2) ((zd_104 _).trans rfl) zm_104 rfl rfl ?_
      refine zt_V (pc' := 5) ((zd_104 _).trans rfl) zm_104 rfl zq_7_77 rfl (Nat.le_of_ble_eq_true rfl) hM zqv_7_77_5 (by decide) rfl (c_isJoint1 hM ha1 ha2) ?_
      refine zt_ifF (tgt := 21) (pc' := 8) ((zd_104 _).trans rfl) zm_104 rfl rfl (zneq (by decide)) ?_
      refine zt (pc' := 9) ((zd_104 _).trans rfl) zm_104 rfl rfl ?_
      refine zt (pc' := 10) ((zd_104 _).trans rfl) zm_104 rfl rfl ?_
      refine zt_V (pc' := 13) ((zd_104 _).trans rfl) zm_104 rfl zq_7_77 rfl (Nat.le_of_ble_eq_true rfl) hM zqv_7_77_5 (by decide) rfl (c_isJoint1 hM hb1 hb2) ?_
      refine zt_ifF (tgt := 21) (pc' := 16) ((zd_104 _).trans rfl) zm_104 rfl rfl (zneq (by decide)) ?_
      refine zt (pc' := 17) ((zd_104 _).trans rfl) zm_104 rfl rfl ?_
      refine zt (pc' := 18) ((zd_104 _).trans rfl) zm_104 rfl rfl ?_
      refine zt_icF (tgt := 24) (pc' := 21) ((zd_104 _).trans rfl) zm_104 rfl rfl (znne hab) ?_
      refine zt (pc' := 23) ((zd_104 _).trans rfl) zm_104 rfl rfl ?_
      exact zte ((zd_104 _).trans rfl) zm_104 rfl
theorem c_isSort1_0 {d : Nat} {w : zW} {ms : List Value} {pl : Value} (hM : w.1 9 = some (.inr (5, .int 1 :: pl :: .int 0 :: ms))) : zmet (d + 1) 138 [.ref 9, .int 0] w (some (.int 1)) w := by
  refine ⟨_, rfl, Nat.le_of_ble_eq_true rfl, ?_⟩
  show zev (d + 1) 138 0 [some (.ref 9), some (.int 0)] [] w _ _
  refine zt (pc' := 1) ((zd_138 _).trans rfl) zm_138 rfl rfl ?_
  refine zt (pc' := 2) ((zd_138 _).trans rfl) zm_138 rfl rfl ?_
  refine zt (pc' := 3) ((zd_138 _).trans rfl) zm_138 rfl rfl ?_
  refine zt_S (pc' := 6) ((zd_138 _).trans rfl) zm_138 rfl zq_7_70 (Nat.le_of_ble_eq_true rfl) (Nat.le_of_ble_eq_true rfl) rfl (c_isIn1 (by decide) (by decide)) ?_
  refine zt_ifF (tgt := 26) (pc' := 9) ((zd_138 _).trans rfl) zm_138 rfl rfl (zneq (by decide)) ?_
  refine zt (pc' := 10) ((zd_138 _).trans rfl) zm_138 rfl rfl ?_
  refine zt (pc' := 11) ((zd_138 _).trans rfl) zm_138 rfl rfl ?_
  refine zt_icT (tgt := 22) (pc' := 14) ((zd_138 _).trans rfl) zm_138 rfl rfl (zne (by decide)) ?_
  refine zt (pc' := 23) ((zd_138 _).trans rfl) zm_138 rfl rfl ?_
  refine zt (pc' := 27) ((zd_138 _).trans rfl) zm_138 rfl rfl ?_
  exact zte ((zd_138 _).trans rfl) zm_138 rfl
theorem t_implied0 {d : Nat} {w : zW} {a b c : Int32} {ms : List Value} {pl : Value} (hM : w.1 9 = some (.inr (5, .int 1 :: pl :: .int 0 :: ms))) : zmet (d + 2) 124 [.ref 9, .int 0, .int a, .int b, .int c] w (some (.int (-2))) w := by
  refine ⟨_, rfl, Nat.le_of_ble_eq_true rfl, ?_⟩
  show zev (d + 2) 124 0 [some (.ref 9), some (.int 0), some (.int a), some (.int b), some (.int c)] [] w _ _
  by_cases ha : a < 0 ∨ (1 : Int32) - 1 < a
  · refine zt (pc' := 1) ((zd_124 _).trans rfl) zm_124 rfl rfl ?_
    refine zt (pc' := 2) ((zd_124 _).trans rfl) zm_124 rfl rfl ?_
    refine zt_V (pc' := 5) ((zd_124 _).trans rfl) zm_124 rfl zq_7_158 rfl (Nat.le_of_ble_eq_true rfl) hM zqv_7_158_5 (by decide) rfl (c_isSort1_0 hM) ?_
    refine zt_ifF (tgt := 38) (pc' := 8) ((zd_124 _).trans rfl) zm_124 rfl rfl (zneq (by decide)) ?_
    refine zt (pc' := 9) ((zd_124 _).trans rfl) zm_124 rfl rfl ?_
    refine zt (pc' := 10) ((zd_124 _).trans rfl) zm_124 rfl rfl ?_
    refine zt_V (pc' := 13) ((zd_124 _).trans rfl) zm_124 rfl zq_7_77 rfl (Nat.le_of_ble_eq_true rfl) hM zqv_7_77_5 (by decide) rfl (c_isJoint0 hM ha) ?_
    refine zt_ifT (tgt := 38) (pc' := 16) ((zd_124 _).trans rfl) zm_124 rfl rfl (zeq rfl) ?_
    refine zt (pc' := 40) ((zd_124 _).trans rfl) zm_124 rfl rfl ?_
    exact zte ((zd_124 _).trans rfl) zm_124 rfl
  · have ha1 : ¬ a < 0 := fun h => ha (Or.inl h)
    have ha2 : ¬ (1 : Int32) - 1 < a := fun h => ha (Or.inr h)
    by_cases hb : b < 0 ∨ (1 : Int32) - 1 < b
    · refine zt (pc' := 1) ((zd_124 _).trans rfl) zm_124 rfl rfl ?_
      refine zt (pc' := 2) ((zd_124 _).trans rfl) zm_124 rfl rfl ?_
      refine zt_V (pc' := 5) ((zd_124 _).trans rfl) zm_124 rfl zq_7_158 rfl (Nat.le_of_ble_eq_true rfl) hM zqv_7_158_5 (by decide) rfl (c_isSort1_0 hM) ?_
      refine zt_ifF (tgt := 38) (pc' := 8) ((zd_124 _).trans rfl) zm_124 rfl rfl (zneq (by decide)) ?_
      refine zt (pc' := 9) ((zd_124 _).trans rfl) zm_124 rfl rfl ?_
      refine zt (pc' := 10) ((zd_124 _).trans rfl) zm_124 rfl rfl ?_
      refine zt_V (pc' := 13) ((zd_124 _).trans rfl) zm_124 rfl zq_7_77 rfl (Nat.le_of_ble_eq_true rfl) hM zqv_7_77_5 (by decide) rfl (c_isJoint1 hM ha1 ha2) ?_
      refine zt_ifF (tgt := 38) (pc' := 16) ((zd_124 _).trans rfl) zm_124 rfl rfl (zneq (by decide)) ?_
      refine zt (pc' := 17) ((zd_124 _).trans rfl) zm_124 rfl rfl ?_
      refine zt (pc' := 18) ((zd_124 _).trans rfl) zm_124 rfl rfl ?_
      refine zt_V (pc' := 21) ((zd_124 _).trans rfl) zm_124 rfl zq_7_77 rfl (Nat.le_of_ble_eq_true rfl) hM zqv_7_77_5 (by decide) rfl (c_isJoint0 hM hb) ?_
      refine zt_ifT (tgt := 38) (pc' := 24) ((zd_124 _).trans rfl) zm_124 rfl rfl (zeq rfl) ?_
      refine zt (pc' := 40) ((zd_124 _).trans rfl) zm_124 rfl rfl ?_
      exact zte ((zd_124 _).trans rfl) zm_124 rfl
    · have hb1 : ¬ b < 0 := fun h => hb (Or.inl h)
      have hb2 : ¬ (1 : Int32) - 1 < b := fun h => hb (Or.inr h)
      have hab : a = b := (z02 ha1 ha2).trans (z02 hb1 hb2).symm
      refine zt (pc' := 1) ((zd_124 _).trans rfl) zm_124 rfl rfl ?_
      refine zt (pc' := 2) ((zd_124 _).trans rfl) zm_124 rfl rfl ?_
      refine zt_V (pc' := 5) ((zd_124 _).trans rfl) zm_124 rfl zq_7_158 rfl (Nat.le_of_ble_eq_true rfl) hM zqv_7_158_5 (by decide) rfl (c_isSort1_0 hM) ?_
      refine zt_ifF (tgt := 38) (pc' := 8) ((zd_124 _).trans rfl) zm_124 rfl rfl (zneq (by decide)) ?_
      refine zt (pc' := 9) ((zd_124 _).trans rfl) zm_124 rfl rfl ?_
      refine zt (pc' := 10) ((zd_124 _).trans rfl) zm_124 rfl rfl ?_
      refine zt_V (pc' := 13) ((zd_124 _).trans rfl) zm_124 rfl zq_7_77 rfl (Nat.le_of_ble_eq_true rfl) hM zqv_7_77_5 (by decide) rfl (c_isJoint1 hM ha1 ha2) ?_
      refine zt_ifF (tgt := 38) (pc' := 16) ((zd_124 _).trans rfl) zm_124 rfl rfl (zneq (by decide)) ?_
      refine zt (pc' := 17) ((zd_124 _).trans rfl) zm_124 rfl rfl ?_
      refine zt (pc' := 18) ((zd_124 _).trans rfl) zm_124 rfl rfl ?_
      refine zt_V (pc' := 21) ((zd_124 _).trans rfl) zm_124 rfl zq_7_77 rfl (Nat.le_of_ble_eq_true rfl) hM zqv_7_77_5 (by decide) rfl (c_isJoint1 hM hb1 hb2) ?_
      refine zt_ifF (tgt := 38) (pc' := 24) ((zd_124 _).trans rfl) zm_124 rfl rfl (zneq (by decide)) ?_
      refine zt (pc' := 25) ((zd_124 _).trans rfl) zm_124 rfl rfl ?_
      refine zt (pc' := 26) ((zd_124 _).trans rfl) zm_124 rfl rfl ?_
      refine zt_icT (tgt := 38) (pc' := 29) ((zd_124 _).trans rfl) zm_124 rfl rfl (zeq hab) ?_
      refine zt (pc' := 40) ((zd_124 _).trans rfl) zm_124 rfl rfl ?_
      exact zte ((zd_124 _).trans rfl) zm_124 rfl
theorem t_rank0 {d : Nat} {w : zW} {b : Int32} {ms : List Value} {pl : Value} (hM : w.1 9 = some (.inr (5, .int 1 :: pl :: .int 0 :: ms))) (hb : b < 0 ∨ 1 <<< ((0 : Int32) &&& 31) - 1 < b) : zmet (d + 2) 154 [.ref 9, .int 0, .int b] w (some (.int (-2))) w := by
  refine ⟨_, rfl, Nat.le_of_ble_eq_true rfl, ?_⟩
  show zev (d + 2) 154 0 [some (.ref 9), some (.int 0), some (.int b)] [] w _ _
  refine zt (pc' := 1) ((zd_154 _).trans rfl) zm_154 rfl rfl ?_
  refine zt (pc' := 2) ((zd_154 _).trans rfl) zm_154 rfl rfl ?_
  refine zt_V (pc' := 5) ((zd_154 _).trans rfl) zm_154 rfl zq_7_158 rfl (Nat.le_of_ble_eq_true rfl) hM zqv_7_158_5 (by decide) rfl (c_isSort1_0 hM) ?_
  refine zt_ifF (tgt := 25) (pc' := 8) ((zd_154 _).trans rfl) zm_154 rfl rfl (zneq (by decide)) ?_
  refine zt (pc' := 9) ((zd_154 _).trans rfl) zm_154 rfl rfl ?_
  refine zt (pc' := 10) ((zd_154 _).trans rfl) zm_154 rfl rfl ?_
  refine zt_V (pc' := 13) ((zd_154 _).trans rfl) zm_154 rfl zq_7_161 rfl (Nat.le_of_ble_eq_true rfl) hM zqv_7_161_5 (by decide) rfl (c_isSet0 hM hb) ?_
  refine zt_ifT (tgt := 25) (pc' := 16) ((zd_154 _).trans rfl) zm_154 rfl rfl (zeq rfl) ?_
  refine zt (pc' := 27) ((zd_154 _).trans rfl) zm_154 rfl rfl ?_
  exact zte ((zd_154 _).trans rfl) zm_154 rfl
theorem t_closure0 {d : Nat} {w : zW} {b : Int32} {ms : List Value} {pl : Value} (hM : w.1 9 = some (.inr (5, .int 1 :: pl :: .int 0 :: ms))) (hb : b < 0 ∨ 1 <<< ((0 : Int32) &&& 31) - 1 < b) : zmet (d + 2) 111 [.ref 9, .int 0, .int b] w (some (.int (-2))) w := by
  refine ⟨_, rfl, Nat.le_of_ble_eq_true rfl, ?_⟩
  show zev (d + 2) 111 0 [some (.ref 9), some (.int 0), some (.int b)] [] w _ _
  refine zt (pc' := 1) ((zd_111 _).trans rfl) zm_111 rfl rfl ?_
  refine zt (pc' := 2) ((zd_111 _).trans rfl) zm_111 rfl rfl ?_
  refine zt_V (pc' := 5) ((zd_111 _).trans rfl) zm_111 rfl zq_7_158 rfl (Nat.le_of_ble_eq_true rfl) hM zqv_7_158_5 (by decide) rfl (c_isSort1_0 hM) ?_
  refine zt_ifF (tgt := 25) (pc' := 8) ((zd_111 _).trans rfl) zm_111 rfl rfl (zneq (by decide)) ?_
  refine zt (pc' := 9) ((zd_111 _).trans rfl) zm_111 rfl rfl ?_
  refine zt (pc' := 10) ((zd_111 _).trans rfl) zm_111 rfl rfl ?_
  refine zt_V (pc' := 13) ((zd_111 _).trans rfl) zm_111 rfl zq_7_161 rfl (Nat.le_of_ble_eq_true rfl) hM zqv_7_161_5 (by decide) rfl (c_isSet0 hM hb) ?_
  refine zt_ifT (tgt := 25) (pc' := 16) ((zd_111 _).trans rfl) zm_111 rfl rfl (zeq rfl) ?_
  refine zt (pc' := 27) ((zd_111 _).trans rfl) zm_111 rfl rfl ?_
  exact zte ((zd_111 _).trans rfl) zm_111 rfl
theorem t_many0 {d : Nat} {w : zW} {b : Int32} {ms : List Value} {pl : Value} (hM : w.1 9 = some (.inr (5, .int 1 :: pl :: .int 0 :: ms))) (hb : b < 0 ∨ 6 < b) : zmet (d + 2) 144 [.ref 9, .int 0, .int b] w (some (.int (-2))) w := by
  refine ⟨_, rfl, Nat.le_of_ble_eq_true rfl, ?_⟩
  show zev (d + 2) 144 0 [some (.ref 9), some (.int 0), some (.int b), none, none] [] w _ _
  refine zt (pc' := 1) ((zd_144 _).trans rfl) zm_144 rfl rfl ?_
  refine zt (pc' := 2) ((zd_144 _).trans rfl) zm_144 rfl rfl ?_
  refine zt_V (pc' := 5) ((zd_144 _).trans rfl) zm_144 rfl zq_7_158 rfl (Nat.le_of_ble_eq_true rfl) hM zqv_7_158_5 (by decide) rfl (c_isSort1_0 hM) ?_
  refine zt_ifF (tgt := 18) (pc' := 8) ((zd_144 _).trans rfl) zm_144 rfl rfl (zneq (by decide)) ?_
  refine zt (pc' := 9) ((zd_144 _).trans rfl) zm_144 rfl rfl ?_
  refine zt (pc' := 10) ((zd_144 _).trans rfl) zm_144 rfl rfl ?_
  refine zt (pc' := 12) ((zd_144 _).trans rfl) zm_144 rfl rfl ?_
  refine zt_S (pc' := 15) ((zd_144 _).trans rfl) zm_144 rfl zq_7_70 (Nat.le_of_ble_eq_true rfl) (Nat.le_of_ble_eq_true rfl) rfl (c_isIn0 hb) ?_
  refine zt_ifF (tgt := 21) (pc' := 18) ((zd_144 _).trans rfl) zm_144 rfl rfl (znne rfl) ?_
  refine zt (pc' := 20) ((zd_144 _).trans rfl) zm_144 rfl rfl ?_
  exact zte ((zd_144 _).trans rfl) zm_144 rfl
theorem t_told0 {d : Nat} {w : zW} {b c : Int32} {ms : List Value} {pl : Value} (hM : w.1 9 = some (.inr (5, .int 1 :: pl :: .int 0 :: ms))) (hb : b < 0 ∨ 6 < b) : zmet (d + 2) 166 [.ref 9, .int 0, .int b, .int c] w (some (.int (-2))) w := by
  refine ⟨_, rfl, Nat.le_of_ble_eq_true rfl, ?_⟩
  show zev (d + 2) 166 0 [some (.ref 9), some (.int 0), some (.int b), some (.int c), none, none, none] [] w _ _
  refine zt (pc' := 1) ((zd_166 _).trans rfl) zm_166 rfl rfl ?_
  refine zt (pc' := 2) ((zd_166 _).trans rfl) zm_166 rfl rfl ?_
  refine zt_V (pc' := 5) ((zd_166 _).trans rfl) zm_166 rfl zq_7_158 rfl (Nat.le_of_ble_eq_true rfl) hM zqv_7_158_5 (by decide) rfl (c_isSort1_0 hM) ?_
  refine zt_ifF (tgt := 18) (pc' := 8) ((zd_166 _).trans rfl) zm_166 rfl rfl (zneq (by decide)) ?_
  refine zt (pc' := 9) ((zd_166 _).trans rfl) zm_166 rfl rfl ?_
  refine zt (pc' := 10) ((zd_166 _).trans rfl) zm_166 rfl rfl ?_
  refine zt (pc' := 12) ((zd_166 _).trans rfl) zm_166 rfl rfl ?_
  refine zt_S (pc' := 15) ((zd_166 _).trans rfl) zm_166 rfl zq_7_70 (Nat.le_of_ble_eq_true rfl) (Nat.le_of_ble_eq_true rfl) rfl (c_isIn0 hb) ?_
  refine zt_ifF (tgt := 21) (pc' := 18) ((zd_166 _).trans rfl) zm_166 rfl rfl (znne rfl) ?_
  refine zt (pc' := 20) ((zd_166 _).trans rfl) zm_166 rfl rfl ?_
  exact zte ((zd_166 _).trans rfl) zm_166 rfl
theorem c_isSort1_1 {d : Nat} {w : zW} {ms : List Value} {pl : Value} (hM : w.1 9 = some (.inr (5, .int 1 :: pl :: .int 0 :: ms))) : zmet (d + 1) 138 [.ref 9, .int 1] w (some (.int 1)) w := by
  refine ⟨_, rfl, Nat.le_of_ble_eq_true rfl, ?_⟩
  show zev (d + 1) 138 0 [some (.ref 9), some (.int 1)] [] w _ _
  refine zt (pc' := 1) ((zd_138 _).trans rfl) zm_138 rfl rfl ?_
  refine zt (pc' := 2) ((zd_138 _).trans rfl) zm_138 rfl rfl ?_
  refine zt (pc' := 3) ((zd_138 _).trans rfl) zm_138 rfl rfl ?_
  refine zt_S (pc' := 6) ((zd_138 _).trans rfl) zm_138 rfl zq_7_70 (Nat.le_of_ble_eq_true rfl) (Nat.le_of_ble_eq_true rfl) rfl (c_isIn1 (by decide) (by decide)) ?_
  refine zt_ifF (tgt := 26) (pc' := 9) ((zd_138 _).trans rfl) zm_138 rfl rfl (zneq (by decide)) ?_
  refine zt (pc' := 10) ((zd_138 _).trans rfl) zm_138 rfl rfl ?_
  refine zt (pc' := 11) ((zd_138 _).trans rfl) zm_138 rfl rfl ?_
  refine zt_icF (tgt := 22) (pc' := 14) ((zd_138 _).trans rfl) zm_138 rfl rfl (znne rfl) ?_
  refine zt (pc' := 15) ((zd_138 _).trans rfl) zm_138 rfl rfl ?_
  refine zt_get (pc' := 18) ((zd_138 _).trans rfl) zm_138 rfl rfl hM (by decide) rfl ?_
  refine zt (pc' := 19) ((zd_138 _).trans rfl) zm_138 rfl rfl ?_
  refine zt_icF (tgt := 26) (pc' := 22) ((zd_138 _).trans rfl) zm_138 rfl rfl (zngt (by decide)) ?_
  refine zt (pc' := 23) ((zd_138 _).trans rfl) zm_138 rfl rfl ?_
  refine zt (pc' := 27) ((zd_138 _).trans rfl) zm_138 rfl rfl ?_
  exact zte ((zd_138 _).trans rfl) zm_138 rfl
theorem t_implied1 {d : Nat} {w : zW} {a b c : Int32} {ms : List Value} {pl : Value} (hM : w.1 9 = some (.inr (5, .int 1 :: pl :: .int 0 :: ms))) : zmet (d + 2) 124 [.ref 9, .int 1, .int a, .int b, .int c] w (some (.int (-2))) w := by
  refine ⟨_, rfl, Nat.le_of_ble_eq_true rfl, ?_⟩
  show zev (d + 2) 124 0 [some (.ref 9), some (.int 1), some (.int a), some (.int b), some (.int c)] [] w _ _
  by_cases ha : a < 0 ∨ (1 : Int32) - 1 < a
  · refine zt (pc' := 1) ((zd_124 _).trans rfl) zm_124 rfl rfl ?_
    refine zt (pc' := 2) ((zd_124 _).trans rfl) zm_124 rfl rfl ?_
    refine zt_V (pc' := 5) ((zd_124 _).trans rfl) zm_124 rfl zq_7_158 rfl (Nat.le_of_ble_eq_true rfl) hM zqv_7_158_5 (by decide) rfl (c_isSort1_1 hM) ?_
    refine zt_ifF (tgt := 38) (pc' := 8) ((zd_124 _).trans rfl) zm_124 rfl rfl (zneq (by decide)) ?_
    refine zt (pc' := 9) ((zd_124 _).trans rfl) zm_124 rfl rfl ?_
    refine zt (pc' := 10) ((zd_124 _).trans rfl) zm_124 rfl rfl ?_
    refine zt_V (pc' := 13) ((zd_124 _).trans rfl) zm_124 rfl zq_7_77 rfl (Nat.le_of_ble_eq_true rfl) hM zqv_7_77_5 (by decide) rfl (c_isJoint0 hM ha) ?_
    refine zt_ifT (tgt := 38) (pc' := 16) ((zd_124 _).trans rfl) zm_124 rfl rfl (zeq rfl) ?_
    refine zt (pc' := 40) ((zd_124 _).trans rfl) zm_124 rfl rfl ?_
    exact zte ((zd_124 _).trans rfl) zm_124 rfl
  · have ha1 : ¬ a < 0 := fun h => ha (Or.inl h)
    have ha2 : ¬ (1 : Int32) - 1 < a := fun h => ha (Or.inr h)
    by_cases hb : b < 0 ∨ (1 : Int32) - 1 < b
    · refine zt (pc' := 1) ((zd_124 _).trans rfl) zm_124 rfl rfl ?_
      refine zt (pc' := 2) ((zd_124 _).trans rfl) zm_124 rfl rfl ?_
      refine zt_V (pc' := 5) ((zd_124 _).trans rfl) zm_124 rfl zq_7_158 rfl (Nat.le_of_ble_eq_true rfl) hM zqv_7_158_5 (by decide) rfl (c_isSort1_1 hM) ?_
      refine zt_ifF (tgt := 38) (pc' := 8) ((zd_124 _).trans rfl) zm_124 rfl rfl (zneq (by decide)) ?_
      refine zt (pc' := 9) ((zd_124 _).trans rfl) zm_124 rfl rfl ?_
      refine zt (pc' := 10) ((zd_124 _).trans rfl) zm_124 rfl rfl ?_
      refine zt_V (pc' := 13) ((zd_124 _).trans rfl) zm_124 rfl zq_7_77 rfl (Nat.le_of_ble_eq_true rfl) hM zqv_7_77_5 (by decide) rfl (c_isJoint1 hM ha1 ha2) ?_
      refine zt_ifF (tgt := 38) (pc' := 16) ((zd_124 _).trans rfl) zm_124 rfl rfl (zneq (by decide)) ?_
      refine zt (pc' := 17) ((zd_124 _).trans rfl) zm_124 rfl rfl ?_
      refine zt (pc' := 18) ((zd_124 _).trans rfl) zm_124 rfl rfl ?_
      refine zt_V (pc' := 21) ((zd_124 _).trans rfl) zm_124 rfl zq_7_77 rfl (Nat.le_of_ble_eq_true rfl) hM zqv_7_77_5 (by decide) rfl (c_isJoint0 hM hb) ?_
      refine zt_ifT (tgt := 38) (pc' := 24) ((zd_124 _).trans rfl) zm_124 rfl rfl (zeq rfl) ?_
      refine zt (pc' := 40) ((zd_124 _).trans rfl) zm_124 rfl rfl ?_
      exact zte ((zd_124 _).trans rfl) zm_124 rfl
    · have hb1 : ¬ b < 0 := fun h => hb (Or.inl h)
      have hb2 : ¬ (1 : Int32) - 1 < b := fun h => hb (Or.inr h)
      have hab : a = b := (z02 ha1 ha2).trans (z02 hb1 hb2).symm
      refine zt (pc' := 1) ((zd_124 _).trans rfl) zm_124 rfl rfl ?_
      refine zt (pc' := 2) ((zd_124 _).trans rfl) zm_124 rfl rfl ?_
      refine zt_V (pc' := 5) ((zd_124 _).trans rfl) zm_124 rfl zq_7_158 rfl (Nat.le_of_ble_eq_true rfl) hM zqv_7_158_5 (by decide) rfl (c_isSort1_1 hM) ?_
      refine zt_ifF (tgt := 38) (pc' := 8) ((zd_124 _).trans rfl) zm_124 rfl rfl (zneq (by decide)) ?_
      refine zt (pc' := 9) ((zd_124 _).trans rfl) zm_124 rfl rfl ?_
      refine zt (pc' := 10) ((zd_124 _).trans rfl) zm_124 rfl rfl ?_
      refine zt_V (pc' := 13) ((zd_124 _).trans rfl) zm_124 rfl zq_7_77 rfl (Nat.le_of_ble_eq_true rfl) hM zqv_7_77_5 (by decide) rfl (c_isJoint1 hM ha1 ha2) ?_
      refine zt_ifF (tgt := 38) (pc' := 16) ((zd_124 _).trans rfl) zm_124 rfl rfl (zneq (by decide)) ?_
      refine zt (pc' := 17) ((zd_124 _).trans rfl) zm_124 rfl rfl ?_
      refine zt (pc' := 18) ((zd_124 _).trans rfl) zm_124 rfl rfl ?_
      refine zt_V (pc' := 21) ((zd_124 _).trans rfl) zm_124 rfl zq_7_77 rfl (Nat.le_of_ble_eq_true rfl) hM zqv_7_77_5 (by decide) rfl (c_isJoint1 hM hb1 hb2) ?_
      refine zt_ifF (tgt := 38) (pc' := 24) ((zd_124 _).trans rfl) zm_124 rfl rfl (zneq (by decide)) ?_
      refine zt (pc' := 25) ((zd_124 _).trans rfl) zm_124 rfl rfl ?_
      refine zt (pc' := 26) ((zd_124 _).trans rfl) zm_124 rfl rfl ?_
      refine zt_icT (tgt := 38) (pc' := 29) ((zd_124 _).trans rfl) zm_124 rfl rfl (zeq hab) ?_
      refine zt (pc' := 40) ((zd_124 _).trans rfl) zm_124 rfl rfl ?_
      exact zte ((zd_124 _).trans rfl) zm_124 rfl
theorem t_rank1 {d : Nat} {w : zW} {b : Int32} {ms : List Value} {pl : Value} (hM : w.1 9 = some (.inr (5, .int 1 :: pl :: .int 0 :: ms))) (hb : b < 0 ∨ 1 <<< ((0 : Int32) &&& 31) - 1 < b) : zmet (d + 2) 154 [.ref 9, .int 1, .int b] w (some (.int (-2))) w := by
  refine ⟨_, rfl, Nat.le_of_ble_eq_true rfl, ?_⟩
  show zev (d + 2) 154 0 [some (.ref 9), some (.int 1), some (.int b)] [] w _ _
  refine zt (pc' := 1) ((zd_154 _).trans rfl) zm_154 rfl rfl ?_
  refine zt (pc' := 2) ((zd_154 _).trans rfl) zm_154 rfl rfl ?_
  refine zt_V (pc' := 5) ((zd_154 _).trans rfl) zm_154 rfl zq_7_158 rfl (Nat.le_of_ble_eq_true rfl) hM zqv_7_158_5 (by decide) rfl (c_isSort1_1 hM) ?_
  refine zt_ifF (tgt := 25) (pc' := 8) ((zd_154 _).trans rfl) zm_154 rfl rfl (zneq (by decide)) ?_
  refine zt (pc' := 9) ((zd_154 _).trans rfl) zm_154 rfl rfl ?_
  refine zt (pc' := 10) ((zd_154 _).trans rfl) zm_154 rfl rfl ?_
  refine zt_V (pc' := 13) ((zd_154 _).trans rfl) zm_154 rfl zq_7_161 rfl (Nat.le_of_ble_eq_true rfl) hM zqv_7_161_5 (by decide) rfl (c_isSet0 hM hb) ?_
  refine zt_ifT (tgt := 25) (pc' := 16) ((zd_154 _).trans rfl) zm_154 rfl rfl (zeq rfl) ?_
  refine zt (pc' := 27) ((zd_154 _).trans rfl) zm_154 rfl rfl ?_
  exact zte ((zd_154 _).trans rfl) zm_154 rfl
theorem t_closure1 {d : Nat} {w : zW} {b : Int32} {ms : List Value} {pl : Value} (hM : w.1 9 = some (.inr (5, .int 1 :: pl :: .int 0 :: ms))) (hb : b < 0 ∨ 1 <<< ((0 : Int32) &&& 31) - 1 < b) : zmet (d + 2) 111 [.ref 9, .int 1, .int b] w (some (.int (-2))) w := by
  refine ⟨_, rfl, Nat.le_of_ble_eq_true rfl, ?_⟩
  show zev (d + 2) 111 0 [some (.ref 9), some (.int 1), some (.int b)] [] w _ _
  refine zt (pc' := 1) ((zd_111 _).trans rfl) zm_111 rfl rfl ?_
  refine zt (pc' := 2) ((zd_111 _).trans rfl) zm_111 rfl rfl ?_
  refine zt_V (pc' := 5) ((zd_111 _).trans rfl) zm_111 rfl zq_7_158 rfl (Nat.le_of_ble_eq_true rfl) hM zqv_7_158_5 (by decide) rfl (c_isSort1_1 hM) ?_
  refine zt_ifF (tgt := 25) (pc' := 8) ((zd_111 _).trans rfl) zm_111 rfl rfl (zneq (by decide)) ?_
  refine zt (pc' := 9) ((zd_111 _).trans rfl) zm_111 rfl rfl ?_
  refine zt (pc' := 10) ((zd_111 _).trans rfl) zm_111 rfl rfl ?_
  refine zt_V (pc' := 13) ((zd_111 _).trans rfl) zm_111 rfl zq_7_161 rfl (Nat.le_of_ble_eq_true rfl) hM zqv_7_161_5 (by decide) rfl (c_isSet0 hM hb) ?_
  refine zt_ifT (tgt := 25) (pc' := 16) ((zd_111 _).trans rfl) zm_111 rfl rfl (zeq rfl) ?_
  refine zt (pc' := 27) ((zd_111 _).trans rfl) zm_111 rfl rfl ?_
  exact zte ((zd_111 _).trans rfl) zm_111 rfl
theorem t_many1 {d : Nat} {w : zW} {b : Int32} {ms : List Value} {pl : Value} (hM : w.1 9 = some (.inr (5, .int 1 :: pl :: .int 0 :: ms))) (hb : b < 0 ∨ 6 < b) : zmet (d + 2) 144 [.ref 9, .int 1, .int b] w (some (.int (-2))) w := by
  refine ⟨_, rfl, Nat.le_of_ble_eq_true rfl, ?_⟩
  show zev (d + 2) 144 0 [some (.ref 9), some (.int 1), some (.int b), none, none] [] w _ _
  refine zt (pc' := 1) ((zd_144 _).trans rfl) zm_144 rfl rfl ?_
  refine zt (pc' := 2) ((zd_144 _).trans rfl) zm_144 rfl rfl ?_
  refine zt_V (pc' := 5) ((zd_144 _).trans rfl) zm_144 rfl zq_7_158 rfl (Nat.le_of_ble_eq_true rfl) hM zqv_7_158_5 (by decide) rfl (c_isSort1_1 hM) ?_
  refine zt_ifF (tgt := 18) (pc' := 8) ((zd_144 _).trans rfl) zm_144 rfl rfl (zneq (by decide)) ?_
  refine zt (pc' := 9) ((zd_144 _).trans rfl) zm_144 rfl rfl ?_
  refine zt (pc' := 10) ((zd_144 _).trans rfl) zm_144 rfl rfl ?_
  refine zt (pc' := 12) ((zd_144 _).trans rfl) zm_144 rfl rfl ?_
  refine zt_S (pc' := 15) ((zd_144 _).trans rfl) zm_144 rfl zq_7_70 (Nat.le_of_ble_eq_true rfl) (Nat.le_of_ble_eq_true rfl) rfl (c_isIn0 hb) ?_
  refine zt_ifF (tgt := 21) (pc' := 18) ((zd_144 _).trans rfl) zm_144 rfl rfl (znne rfl) ?_
  refine zt (pc' := 20) ((zd_144 _).trans rfl) zm_144 rfl rfl ?_
  exact zte ((zd_144 _).trans rfl) zm_144 rfl
theorem t_told1 {d : Nat} {w : zW} {b c : Int32} {ms : List Value} {pl : Value} (hM : w.1 9 = some (.inr (5, .int 1 :: pl :: .int 0 :: ms))) (hb : b < 0 ∨ 6 < b) : zmet (d + 2) 166 [.ref 9, .int 1, .int b, .int c] w (some (.int (-2))) w := by
  refine ⟨_, rfl, Nat.le_of_ble_eq_true rfl, ?_⟩
  show zev (d + 2) 166 0 [some (.ref 9), some (.int 1), some (.int b), some (.int c), none, none, none] [] w _ _
  refine zt (pc' := 1) ((zd_166 _).trans rfl) zm_166 rfl rfl ?_
  refine zt (pc' := 2) ((zd_166 _).trans rfl) zm_166 rfl rfl ?_
  refine zt_V (pc' := 5) ((zd_166 _).trans rfl) zm_166 rfl zq_7_158 rfl (Nat.le_of_ble_eq_true rfl) hM zqv_7_158_5 (by decide) rfl (c_isSort1_1 hM) ?_
  refine zt_ifF (tgt := 18) (pc' := 8) ((zd_166 _).trans rfl) zm_166 rfl rfl (zneq (by decide)) ?_
  refine zt (pc' := 9) ((zd_166 _).trans rfl) zm_166 rfl rfl ?_
  refine zt (pc' := 10) ((zd_166 _).trans rfl) zm_166 rfl rfl ?_
  refine zt (pc' := 12) ((zd_166 _).trans rfl) zm_166 rfl rfl ?_
  refine zt_S (pc' := 15) ((zd_166 _).trans rfl) zm_166 rfl zq_7_70 (Nat.le_of_ble_eq_true rfl) (Nat.le_of_ble_eq_true rfl) rfl (c_isIn0 hb) ?_
  refine zt_ifF (tgt := 21) (pc' := 18) ((zd_166 _).trans rfl) zm_166 rfl rfl (znne rfl) ?_
  refine zt (pc' := 20) ((zd_166 _).trans rfl) zm_166 rfl rfl ?_
  exact zte ((zd_166 _).trans rfl) zm_166 rfl
theorem c_isSort1_2 {d : Nat} {w : zW} {ms : List Value} {pl : Value} (hM : w.1 9 = some (.inr (5, .int 1 :: pl :: .int 0 :: ms))) : zmet (d + 1) 138 [.ref 9, .int 2] w (some (.int 1)) w := by
  refine ⟨_, rfl, Nat.le_of_ble_eq_true rfl, ?_⟩
  show zev (d + 1) 138 0 [some (.ref 9), some (.int 2)] [] w _ _
  refine zt (pc' := 1) ((zd_138 _).trans rfl) zm_138 rfl rfl ?_
  refine zt (pc' := 2) ((zd_138 _).trans rfl) zm_138 rfl rfl ?_
  refine zt (pc' := 3) ((zd_138 _).trans rfl) zm_138 rfl rfl ?_
  refine zt_S (pc' := 6) ((zd_138 _).trans rfl) zm_138 rfl zq_7_70 (Nat.le_of_ble_eq_true rfl) (Nat.le_of_ble_eq_true rfl) rfl (c_isIn1 (by decide) (by decide)) ?_
  refine zt_ifF (tgt := 26) (pc' := 9) ((zd_138 _).trans rfl) zm_138 rfl rfl (zneq (by decide)) ?_
  refine zt (pc' := 10) ((zd_138 _).trans rfl) zm_138 rfl rfl ?_
  refine zt (pc' := 11) ((zd_138 _).trans rfl) zm_138 rfl rfl ?_
  refine zt_icT (tgt := 22) (pc' := 14) ((zd_138 _).trans rfl) zm_138 rfl rfl (zne (by decide)) ?_
  refine zt (pc' := 23) ((zd_138 _).trans rfl) zm_138 rfl rfl ?_
  refine zt (pc' := 27) ((zd_138 _).trans rfl) zm_138 rfl rfl ?_
  exact zte ((zd_138 _).trans rfl) zm_138 rfl
theorem t_implied2 {d : Nat} {w : zW} {a b c : Int32} {ms : List Value} {pl : Value} (hM : w.1 9 = some (.inr (5, .int 1 :: pl :: .int 0 :: ms))) : zmet (d + 2) 124 [.ref 9, .int 2, .int a, .int b, .int c] w (some (.int (-2))) w := by
  refine ⟨_, rfl, Nat.le_of_ble_eq_true rfl, ?_⟩
  show zev (d + 2) 124 0 [some (.ref 9), some (.int 2), some (.int a), some (.int b), some (.int c)] [] w _ _
  by_cases ha : a < 0 ∨ (1 : Int32) - 1 < a
  · refine zt (pc' := 1) ((zd_124 _).trans rfl) zm_124 rfl rfl ?_
    refine zt (pc' := 2) ((zd_124 _).trans rfl) zm_124 rfl rfl ?_
    refine zt_V (pc' := 5) ((zd_124 _).trans rfl) zm_124 rfl zq_7_158 rfl (Nat.le_of_ble_eq_true rfl) hM zqv_7_158_5 (by decide) rfl (c_isSort1_2 hM) ?_
    refine zt_ifF (tgt := 38) (pc' := 8) ((zd_124 _).trans rfl) zm_124 rfl rfl (zneq (by decide)) ?_
    refine zt (pc' := 9) ((zd_124 _).trans rfl) zm_124 rfl rfl ?_
    refine zt (pc' := 10) ((zd_124 _).trans rfl) zm_124 rfl rfl ?_
    refine zt_V (pc' := 13) ((zd_124 _).trans rfl) zm_124 rfl zq_7_77 rfl (Nat.le_of_ble_eq_true rfl) hM zqv_7_77_5 (by decide) rfl (c_isJoint0 hM ha) ?_
    refine zt_ifT (tgt := 38) (pc' := 16) ((zd_124 _).trans rfl) zm_124 rfl rfl (zeq rfl) ?_
    refine zt (pc' := 40) ((zd_124 _).trans rfl) zm_124 rfl rfl ?_
    exact zte ((zd_124 _).trans rfl) zm_124 rfl
  · have ha1 : ¬ a < 0 := fun h => ha (Or.inl h)
    have ha2 : ¬ (1 : Int32) - 1 < a := fun h => ha (Or.inr h)
    by_cases hb : b < 0 ∨ (1 : Int32) - 1 < b
    · refine zt (pc' := 1) ((zd_124 _).trans rfl) zm_124 rfl rfl ?_
      refine zt (pc' := 2) ((zd_124 _).trans rfl) zm_124 rfl rfl ?_
      refine zt_V (pc' := 5) ((zd_124 _).trans rfl) zm_124 rfl zq_7_158 rfl (Nat.le_of_ble_eq_true rfl) hM zqv_7_158_5 (by decide) rfl (c_isSort1_2 hM) ?_
      refine zt_ifF (tgt := 38) (pc' := 8) ((zd_124 _).trans rfl) zm_124 rfl rfl (zneq (by decide)) ?_
      refine zt (pc' := 9) ((zd_124 _).trans rfl) zm_124 rfl rfl ?_
      refine zt (pc' := 10) ((zd_124 _).trans rfl) zm_124 rfl rfl ?_
      refine zt_V (pc' := 13) ((zd_124 _).trans rfl) zm_124 rfl zq_7_77 rfl (Nat.le_of_ble_eq_true rfl) hM zqv_7_77_5 (by decide) rfl (c_isJoint1 hM ha1 ha2) ?_
      refine zt_ifF (tgt := 38) (pc' := 16) ((zd_124 _).trans rfl) zm_124 rfl rfl (zneq (by decide)) ?_
      refine zt (pc' := 17) ((zd_124 _).trans rfl) zm_124 rfl rfl ?_
      refine zt (pc' := 18) ((zd_124 _).trans rfl) zm_124 rfl rfl ?_
      refine zt_V (pc' := 21) ((zd_124 _).trans rfl) zm_124 rfl zq_7_77 rfl (Nat.le_of_ble_eq_true rfl) hM zqv_7_77_5 (by decide) rfl (c_isJoint0 hM hb) ?_
      refine zt_ifT (tgt := 38) (pc' := 24) ((zd_124 _).trans rfl) zm_124 rfl rfl (zeq rfl) ?_
      refine zt (pc' := 40) ((zd_124 _).trans rfl) zm_124 rfl rfl ?_
      exact zte ((zd_124 _).trans rfl) zm_124 rfl
    · have hb1 : ¬ b < 0 := fun h => hb (Or.inl h)
      have hb2 : ¬ (1 : Int32) - 1 < b := fun h => hb (Or.inr h)
      have hab : a = b := (z02 ha1 ha2).trans (z02 hb1 hb2).symm
      refine zt (pc' := 1) ((zd_124 _).trans rfl) zm_124 rfl rfl ?_
      refine zt (pc' := 2) ((zd_124 _).trans rfl) zm_124 rfl rfl ?_
      refine zt_V (pc' := 5) ((zd_124 _).trans rfl) zm_124 rfl zq_7_158 rfl (Nat.le_of_ble_eq_true rfl) hM zqv_7_158_5 (by decide) rfl (c_isSort1_2 hM) ?_
      refine zt_ifF (tgt := 38) (pc' := 8) ((zd_124 _).trans rfl) zm_124 rfl rfl (zneq (by decide)) ?_
      refine zt (pc' := 9) ((zd_124 _).trans rfl) zm_124 rfl rfl ?_
      refine zt (pc' := 10) ((zd_124 _).trans rfl) zm_124 rfl rfl ?_
      refine zt_V (pc' := 13) ((zd_124 _).trans rfl) zm_124 rfl zq_7_77 rfl (Nat.le_of_ble_eq_true rfl) hM zqv_7_77_5 (by decide) rfl (c_isJoint1 hM ha1 ha2) ?_
      refine zt_ifF (tgt := 38) (pc' := 16) ((zd_124 _).trans rfl) zm_124 rfl rfl (zneq (by decide)) ?_
      refine zt (pc' := 17) ((zd_124 _).trans rfl) zm_124 rfl rfl ?_
      refine zt (pc' := 18) ((zd_124 _).trans rfl) zm_124 rfl rfl ?_
      refine zt_V (pc' := 21) ((zd_124 _).trans rfl) zm_124 rfl zq_7_77 rfl (Nat.le_of_ble_eq_true rfl) hM zqv_7_77_5 (by decide) rfl (c_isJoint1 hM hb1 hb2) ?_
      refine zt_ifF (tgt := 38) (pc' := 24) ((zd_124 _).trans rfl) zm_124 rfl rfl (zneq (by decide)) ?_
      refine zt (pc' := 25) ((zd_124 _).trans rfl) zm_124 rfl rfl ?_
      refine zt (pc' := 26) ((zd_124 _).trans rfl) zm_124 rfl rfl ?_
      refine zt_icT (tgt := 38) (pc' := 29) ((zd_124 _).trans rfl) zm_124 rfl rfl (zeq hab) ?_
      refine zt (pc' := 40) ((zd_124 _).trans rfl) zm_124 rfl rfl ?_
      exact zte ((zd_124 _).trans rfl) zm_124 rfl
theorem t_rank2 {d : Nat} {w : zW} {b : Int32} {ms : List Value} {pl : Value} (hM : w.1 9 = some (.inr (5, .int 1 :: pl :: .int 0 :: ms))) (hb : b < 0 ∨ 1 <<< ((0 : Int32) &&& 31) - 1 < b) : zmet (d + 2) 154 [.ref 9, .int 2, .int b] w (some (.int (-2))) w := by
  refine ⟨_, rfl, Nat.le_of_ble_eq_true rfl, ?_⟩
  show zev (d + 2) 154 0 [some (.ref 9), some (.int 2), some (.int b)] [] w _ _
  refine zt (pc' := 1) ((zd_154 _).trans rfl) zm_154 rfl rfl ?_
  refine zt (pc' := 2) ((zd_154 _).trans rfl) zm_154 rfl rfl ?_
  refine zt_V (pc' := 5) ((zd_154 _).trans rfl) zm_154 rfl zq_7_158 rfl (Nat.le_of_ble_eq_true rfl) hM zqv_7_158_5 (by decide) rfl (c_isSort1_2 hM) ?_
  refine zt_ifF (tgt := 25) (pc' := 8) ((zd_154 _).trans rfl) zm_154 rfl rfl (zneq (by decide)) ?_
  refine zt (pc' := 9) ((zd_154 _).trans rfl) zm_154 rfl rfl ?_
  refine zt (pc' := 10) ((zd_154 _).trans rfl) zm_154 rfl rfl ?_
  refine zt_V (pc' := 13) ((zd_154 _).trans rfl) zm_154 rfl zq_7_161 rfl (Nat.le_of_ble_eq_true rfl) hM zqv_7_161_5 (by decide) rfl (c_isSet0 hM hb) ?_
  refine zt_ifT (tgt := 25) (pc' := 16) ((zd_154 _).trans rfl) zm_154 rfl rfl (zeq rfl) ?_
  refine zt (pc' := 27) ((zd_154 _).trans rfl) zm_154 rfl rfl ?_
  exact zte ((zd_154 _).trans rfl) zm_154 rfl
theorem t_closure2 {d : Nat} {w : zW} {b : Int32} {ms : List Value} {pl : Value} (hM : w.1 9 = some (.inr (5, .int 1 :: pl :: .int 0 :: ms))) (hb : b < 0 ∨ 1 <<< ((0 : Int32) &&& 31) - 1 < b) : zmet (d + 2) 111 [.ref 9, .int 2, .int b] w (some (.int (-2))) w := by
  refine ⟨_, rfl, Nat.le_of_ble_eq_true rfl, ?_⟩
  show zev (d + 2) 111 0 [some (.ref 9), some (.int 2), some (.int b)] [] w _ _
  refine zt (pc' := 1) ((zd_111 _).trans rfl) zm_111 rfl rfl ?_
  refine zt (pc' := 2) ((zd_111 _).trans rfl) zm_111 rfl rfl ?_
  refine zt_V (pc' := 5) ((zd_111 _).trans rfl) zm_111 rfl zq_7_158 rfl (Nat.le_of_ble_eq_true rfl) hM zqv_7_158_5 (by decide) rfl (c_isSort1_2 hM) ?_
  refine zt_ifF (tgt := 25) (pc' := 8) ((zd_111 _).trans rfl) zm_111 rfl rfl (zneq (by decide)) ?_
  refine zt (pc' := 9) ((zd_111 _).trans rfl) zm_111 rfl rfl ?_
  refine zt (pc' := 10) ((zd_111 _).trans rfl) zm_111 rfl rfl ?_
  refine zt_V (pc' := 13) ((zd_111 _).trans rfl) zm_111 rfl zq_7_161 rfl (Nat.le_of_ble_eq_true rfl) hM zqv_7_161_5 (by decide) rfl (c_isSet0 hM hb) ?_
  refine zt_ifT (tgt := 25) (pc' := 16) ((zd_111 _).trans rfl) zm_111 rfl rfl (zeq rfl) ?_
  refine zt (pc' := 27) ((zd_111 _).trans rfl) zm_111 rfl rfl ?_
  exact zte ((zd_111 _).trans rfl) zm_111 rfl
theorem t_many2 {d : Nat} {w : zW} {b : Int32} {ms : List Value} {pl : Value} (hM : w.1 9 = some (.inr (5, .int 1 :: pl :: .int 0 :: ms))) (hb : b < 0 ∨ 6 < b) : zmet (d + 2) 144 [.ref 9, .int 2, .int b] w (some (.int (-2))) w := by
  refine ⟨_, rfl, Nat.le_of_ble_eq_true rfl, ?_⟩
  show zev (d + 2) 144 0 [some (.ref 9), some (.int 2), some (.int b), none, none] [] w _ _
  refine zt (pc' := 1) ((zd_144 _).trans rfl) zm_144 rfl rfl ?_
  refine zt (pc' := 2) ((zd_144 _).trans rfl) zm_144 rfl rfl ?_
  refine zt_V (pc' := 5) ((zd_144 _).trans rfl) zm_144 rfl zq_7_158 rfl (Nat.le_of_ble_eq_true rfl) hM zqv_7_158_5 (by decide) rfl (c_isSort1_2 hM) ?_
  refine zt_ifF (tgt := 18) (pc' := 8) ((zd_144 _).trans rfl) zm_144 rfl rfl (zneq (by decide)) ?_
  refine zt (pc' := 9) ((zd_144 _).trans rfl) zm_144 rfl rfl ?_
  refine zt (pc' := 10) ((zd_144 _).trans rfl) zm_144 rfl rfl ?_
  refine zt (pc' := 12) ((zd_144 _).trans rfl) zm_144 rfl rfl ?_
  refine zt_S (pc' := 15) ((zd_144 _).trans rfl) zm_144 rfl zq_7_70 (Nat.le_of_ble_eq_true rfl) (Nat.le_of_ble_eq_true rfl) rfl (c_isIn0 hb) ?_
  refine zt_ifF (tgt := 21) (pc' := 18) ((zd_144 _).trans rfl) zm_144 rfl rfl (znne rfl) ?_
  refine zt (pc' := 20) ((zd_144 _).trans rfl) zm_144 rfl rfl ?_
  exact zte ((zd_144 _).trans rfl) zm_144 rfl
theorem t_told2 {d : Nat} {w : zW} {b c : Int32} {ms : List Value} {pl : Value} (hM : w.1 9 = some (.inr (5, .int 1 :: pl :: .int 0 :: ms))) (hb : b < 0 ∨ 6 < b) : zmet (d + 2) 166 [.ref 9, .int 2, .int b, .int c] w (some (.int (-2))) w := by
  refine ⟨_, rfl, Nat.le_of_ble_eq_true rfl, ?_⟩
  show zev (d + 2) 166 0 [some (.ref 9), some (.int 2), some (.int b), some (.int c), none, none, none] [] w _ _
  refine zt (pc' := 1) ((zd_166 _).trans rfl) zm_166 rfl rfl ?_
  refine zt (pc' := 2) ((zd_166 _).trans rfl) zm_166 rfl rfl ?_
  refine zt_V (pc' := 5) ((zd_166 _).trans rfl) zm_166 rfl zq_7_158 rfl (Nat.le_of_ble_eq_true rfl) hM zqv_7_158_5 (by decide) rfl (c_isSort1_2 hM) ?_
  refine zt_ifF (tgt := 18) (pc' := 8) ((zd_166 _).trans rfl) zm_166 rfl rfl (zneq (by decide)) ?_
  refine zt (pc' := 9) ((zd_166 _).trans rfl) zm_166 rfl rfl ?_
  refine zt (pc' := 10) ((zd_166 _).trans rfl) zm_166 rfl rfl ?_
  refine zt (pc' := 12) ((zd_166 _).trans rfl) zm_166 rfl rfl ?_
  refine zt_S (pc' := 15) ((zd_166 _).trans rfl) zm_166 rfl zq_7_70 (Nat.le_of_ble_eq_true rfl) (Nat.le_of_ble_eq_true rfl) rfl (c_isIn0 hb) ?_
  refine zt_ifF (tgt := 21) (pc' := 18) ((zd_166 _).trans rfl) zm_166 rfl rfl (znne rfl) ?_
  refine zt (pc' := 20) ((zd_166 _).trans rfl) zm_166 rfl rfl ?_
  exact zte ((zd_166 _).trans rfl) zm_166 rfl
end
section
/-! one call on each of the two new objects: the same answer, and room (printed by wip/gen/pair.py) -/
def zRm (w : zW) : Prop := 1 ≤ w.2.1 ∧ w.2.1 ≤ 600000 ∧ w.2.2 ≤ 7302250 ∧ w.1 0 = none ∧ ∃ fs : List Value, w.1 9 = some (.inr (5, fs))
def zRmb (w : zW) : Bool := Nat.ble 1 w.2.1 && Nat.ble w.2.1 600000 && Nat.ble w.2.2 7302250 && (w.1 0).isNone && (match w.1 9 with
  | some (.inr (5, _)) => true
  | _ => false)
theorem zRm_ok {w : zW} (h : zRmb w = true) : zRm w := by
  unfold zRmb at h
  simp only [Bool.and_eq_true, Nat.ble_eq, Option.isNone_iff_eq_none] at h
  obtain ⟨⟨⟨⟨a1, a2⟩, a3⟩, a4⟩, a5⟩ := h
  refine ⟨a1, a2, a3, a4, ?_⟩
  split at a5
  · rename_i fs hw
    exact ⟨fs, hw⟩
  · cases a5
def zP (mc mr : Nat) (as : List Value) : Prop := ∃ (v : Int32) (w1 w2 : zW), zmet 40 mc (.ref 1 :: as) zx4 (some (.int v)) w1 ∧ zmet 40 mr (.ref 9 :: as) w1 (some (.int v)) w2 ∧ zRm w1 ∧ zRm w2
def zpk2 (mr mL : Nat) (as : List Value) (v : Int32) (w1 : zW) : Bool := match zrunT 1000000 40 mr 0 (zin mL (.ref 9 :: as)) [] w1 with
  | some (some (.int u), w2) => decide (v = u) && zRmb w1 && zRmb w2
  | _ => false
def zpk (mc nL mr mL : Nat) (as : List Value) : Bool := match zrunT 1000000 40 mc 0 (zin nL (.ref 1 :: as)) [] zx4 with
  | some (some (.int v), w1) => zpk2 mr mL as v w1
  | _ => false
theorem zpk_ok {mc nL mr mL o o' : Nat} {as : List Value} {y y' : MethodName} {b b' : ByteArray} {ret ret' : Option FieldType} {ini ini' : Bool} (hM : zMt[mc]? = some (y, b, nL, ret, o, ini)) (hM' : zMt[mr]? = some (y', b', mL, ret', o', ini')) (hl : (zen (.ref 1 :: as)).length ≤ nL) (hl' : (zen (.ref 9 :: as)).length ≤ mL) (h : zpk mc nL mr mL as = true) : zP mc mr as := by
  unfold zpk at h
  split at h
  · rename_i v w1 h1
    unfold zpk2 at h
    split at h
    · rename_i u w2 h2
      simp only [Bool.and_eq_true, decide_eq_true_eq] at h
      obtain ⟨⟨e, a1⟩, a2⟩ := h
      subst e
      exact ⟨v, w1, w2, ⟨_, hM, hl, _, zrunT_ok _ _ _ _ _ _ _ _ h1⟩, ⟨_, hM', hl', _, zrunT_ok _ _ _ _ _ _ _ _ h2⟩, zRm_ok a1, zRm_ok a2⟩
    · cases h
  · cases h
theorem zx4_Rm : zRm zx4 := zRm_ok (by decide +kernel)
theorem zP_to {mc mr : Nat} {as : List Value} {v : Int32} {w1 : zW} (h1 : zmet 40 mc (.ref 1 :: as) zx4 (some (.int v)) w1) (h2 : zmet 40 mr (.ref 9 :: as) w1 (some (.int v)) w1) (r : zRm w1) : zP mc mr as := ⟨v, w1, w1, h1, h2, r, r⟩
theorem zP_same {mc mr : Nat} {as : List Value} {v : Int32} (h1 : zmet 40 mc (.ref 1 :: as) zx4 (some (.int v)) zx4) (h2 : zmet 40 mr (.ref 9 :: as) zx4 (some (.int v)) zx4) : zP mc mr as := zP_to h1 h2 zx4_Rm
theorem zpk_begin {as : List Value} (hl : (zen (.ref 1 :: as)).length ≤ 3) (hl' : (zen (.ref 9 :: as)).length ≤ 4) (h : zpk 74 3 106 4 as = true) : zP 74 106 as := zpk_ok (mc := 74) (mr := 106) rfl rfl hl hl' h
theorem zpk_joint {as : List Value} (hl : (zen (.ref 1 :: as)).length ≤ 5) (hl' : (zen (.ref 9 :: as)).length ≤ 7) (h : zpk 86 5 141 7 as = true) : zP 86 141 as := zpk_ok (mc := 86) (mr := 141) rfl rfl hl hl' h
theorem zpk_bar {as : List Value} (hl : (zen (.ref 1 :: as)).length ≤ 3) (hl' : (zen (.ref 9 :: as)).length ≤ 7) (h : zpk 73 3 104 7 as = true) : zP 73 104 as := zpk_ok (mc := 73) (mr := 104) rfl rfl hl hl' h
theorem zpk_unbar {as : List Value} (hl : (zen (.ref 1 :: as)).length ≤ 1) (hl' : (zen (.ref 9 :: as)).length ≤ 1) (h : zpk 100 1 168 1 as = true) : zP 100 168 as := zpk_ok (mc := 100) (mr := 168) rfl rfl hl hl' h
theorem zpk_sign {as : List Value} (hl : (zen (.ref 1 :: as)).length ≤ 4) (hl' : (zen (.ref 9 :: as)).length ≤ 4) (h : zpk 95 4 159 4 as = true) : zP 95 159 as := zpk_ok (mc := 95) (mr := 159) rfl rfl hl hl' h
theorem zpk_count {as : List Value} (hl : (zen (.ref 1 :: as)).length ≤ 2) (hl' : (zen (.ref 9 :: as)).length ≤ 4) (h : zpk 79 2 115 4 as = true) : zP 79 115 as := zpk_ok (mc := 79) (mr := 115) rfl rfl hl hl' h
theorem zpk_end {as : List Value} (hl : (zen (.ref 1 :: as)).length ≤ 3) (hl' : (zen (.ref 9 :: as)).length ≤ 3) (h : zpk 80 3 117 3 as = true) : zP 80 117 as := zpk_ok (mc := 80) (mr := 117) rfl rfl hl hl' h
theorem zpk_at {as : List Value} (hl : (zen (.ref 1 :: as)).length ≤ 3) (hl' : (zen (.ref 9 :: as)).length ≤ 3) (h : zpk 72 3 103 3 as = true) : zP 72 103 as := zpk_ok (mc := 72) (mr := 103) rfl rfl hl hl' h
theorem zpk_rank {as : List Value} (hl : (zen (.ref 1 :: as)).length ≤ 4) (hl' : (zen (.ref 9 :: as)).length ≤ 3) (h : zpk 93 4 154 3 as = true) : zP 93 154 as := zpk_ok (mc := 93) (mr := 154) rfl rfl hl hl' h
theorem zpk_closure {as : List Value} (hl : (zen (.ref 1 :: as)).length ≤ 4) (hl' : (zen (.ref 9 :: as)).length ≤ 3) (h : zpk 76 4 111 3 as = true) : zP 76 111 as := zpk_ok (mc := 76) (mr := 111) rfl rfl hl hl' h
theorem zpk_implied {as : List Value} (hl : (zen (.ref 1 :: as)).length ≤ 6) (hl' : (zen (.ref 9 :: as)).length ≤ 5) (h : zpk 82 6 124 5 as = true) : zP 82 124 as := zpk_ok (mc := 82) (mr := 124) rfl rfl hl hl' h
theorem zpk_rigid {as : List Value} (hl : (zen (.ref 1 :: as)).length ≤ 3) (hl' : (zen (.ref 9 :: as)).length ≤ 2) (h : zpk 94 3 158 2 as = true) : zP 94 158 as := zpk_ok (mc := 94) (mr := 158) rfl rfl hl hl' h
theorem zpk_lacks {as : List Value} (hl : (zen (.ref 1 :: as)).length ≤ 3) (hl' : (zen (.ref 9 :: as)).length ≤ 6) (h : zpk 87 3 142 6 as = true) : zP 87 142 as := zpk_ok (mc := 87) (mr := 142) rfl rfl hl hl' h
theorem zpk_spare {as : List Value} (hl : (zen (.ref 1 :: as)).length ≤ 3) (hl' : (zen (.ref 9 :: as)).length ≤ 2) (h : zpk 96 3 160 2 as = true) : zP 96 160 as := zpk_ok (mc := 96) (mr := 160) rfl rfl hl hl' h
theorem zpk_many {as : List Value} (hl : (zen (.ref 1 :: as)).length ≤ 4) (hl' : (zen (.ref 9 :: as)).length ≤ 5) (h : zpk 90 4 144 5 as = true) : zP 90 144 as := zpk_ok (mc := 90) (mr := 144) rfl rfl hl hl' h
theorem zpk_told {as : List Value} (hl : (zen (.ref 1 :: as)).length ≤ 5) (hl' : (zen (.ref 9 :: as)).length ≤ 7) (h : zpk 99 5 166 7 as = true) : zP 99 166 as := zpk_ok (mc := 99) (mr := 166) rfl rfl hl hl' h
theorem zpk_coefficient {as : List Value} (hl : (zen (.ref 1 :: as)).length ≤ 5) (hl' : (zen (.ref 9 :: as)).length ≤ 6) (h : zpk 78 5 114 6 as = true) : zP 78 114 as := zpk_ok (mc := 78) (mr := 114) rfl rfl hl hl' h
theorem zpk_cluster {as : List Value} (hl : (zen (.ref 1 :: as)).length ≤ 4) (hl' : (zen (.ref 9 :: as)).length ≤ 8) (h : zpk 77 4 113 8 as = true) : zP 77 113 as := zpk_ok (mc := 77) (mr := 113) rfl rfl hl hl' h
theorem zpk_stressed {as : List Value} (hl : (zen (.ref 1 :: as)).length ≤ 6) (hl' : (zen (.ref 9 :: as)).length ≤ 4) (h : zpk 98 6 162 4 as = true) : zP 98 162 as := zpk_ok (mc := 98) (mr := 162) rfl rfl hl hl' h
theorem zpk_holds {as : List Value} (hl : (zen (.ref 1 :: as)).length ≤ 4) (hl' : (zen (.ref 9 :: as)).length ≤ 5) (h : zpk 81 4 123 5 as = true) : zP 81 123 as := zpk_ok (mc := 81) (mr := 123) rfl rfl hl hl' h
theorem zpk_built {as : List Value} (hl : (zen (.ref 1 :: as)).length ≤ 2) (hl' : (zen (.ref 9 :: as)).length ≤ 4) (h : zpk 75 2 107 4 as = true) : zP 75 107 as := zpk_ok (mc := 75) (mr := 107) rfl rfl hl hl' h
theorem zpk_oneShape {as : List Value} (hl : (zen (.ref 1 :: as)).length ≤ 3) (hl' : (zen (.ref 9 :: as)).length ≤ 4) (h : zpk 92 3 147 4 as = true) : zP 92 147 as := zpk_ok (mc := 92) (mr := 147) rfl rfl hl hl' h
theorem zc_begin_1 : zP 74 106 [.int 1] := zpk_begin (by decide) (by decide) (by decide +kernel)
theorem zc_begin_2 : zP 74 106 [.int 2] := zpk_begin (by decide) (by decide) (by decide +kernel)
theorem zc_begin_3 : zP 74 106 [.int 3] := zpk_begin (by decide) (by decide) (by decide +kernel)
theorem zc_begin_4 : zP 74 106 [.int 4] := zpk_begin (by decide) (by decide) (by decide +kernel)
theorem zc_begin_5 : zP 74 106 [.int 5] := zpk_begin (by decide) (by decide) (by decide +kernel)
theorem zc_begin_6 : zP 74 106 [.int 6] := zpk_begin (by decide) (by decide) (by decide +kernel)
theorem zc_begin_7 : zP 74 106 [.int 7] := zpk_begin (by decide) (by decide) (by decide +kernel)
theorem zc_unbar : zP 100 168 [] := zpk_unbar (by decide) (by decide) (by decide +kernel)
theorem zc_count_0 : zP 79 115 [.int 0] := zpk_count (by decide) (by decide) (by decide +kernel)
theorem zc_count_1 : zP 79 115 [.int 1] := zpk_count (by decide) (by decide) (by decide +kernel)
theorem zc_count_2 : zP 79 115 [.int 2] := zpk_count (by decide) (by decide) (by decide +kernel)
theorem zc_count_3 : zP 79 115 [.int 3] := zpk_count (by decide) (by decide) (by decide +kernel)
theorem zc_at_0_0 : zP 72 103 [.int 0, .int 0] := zpk_at (by decide) (by decide) (by decide +kernel)
theorem zc_at_0_1 : zP 72 103 [.int 0, .int 1] := zpk_at (by decide) (by decide) (by decide +kernel)
theorem zc_at_0_2 : zP 72 103 [.int 0, .int 2] := zpk_at (by decide) (by decide) (by decide +kernel)
theorem zc_rank_0_0 : zP 93 154 [.int 0, .int 0] := zpk_rank (by decide) (by decide) (by decide +kernel)
theorem zc_rank_1_0 : zP 93 154 [.int 1, .int 0] := zpk_rank (by decide) (by decide) (by decide +kernel)
theorem zc_rank_2_0 : zP 93 154 [.int 2, .int 0] := zpk_rank (by decide) (by decide) (by decide +kernel)
theorem zc_built_0 : zP 75 107 [.int 0] := zpk_built (by decide) (by decide) (by decide +kernel)
theorem zc_oneShape : zP 92 147 [] := zpk_oneShape (by decide) (by decide) (by decide +kernel)
end
section
/-! closed calls, the rest (printed by wip/gen/pair.py) -/
theorem zc_closure_0_0 : zP 76 111 [.int 0, .int 0] := zpk_closure (by decide) (by decide) (by decide +kernel)
theorem zc_closure_1_0 : zP 76 111 [.int 1, .int 0] := zpk_closure (by decide) (by decide) (by decide +kernel)
theorem zc_closure_2_0 : zP 76 111 [.int 2, .int 0] := zpk_closure (by decide) (by decide) (by decide +kernel)
theorem zc_rigid_0 : zP 94 158 [.int 0] := zpk_rigid (by decide) (by decide) (by decide +kernel)
theorem zc_rigid_1 : zP 94 158 [.int 1] := zpk_rigid (by decide) (by decide) (by decide +kernel)
theorem zc_rigid_2 : zP 94 158 [.int 2] := zpk_rigid (by decide) (by decide) (by decide +kernel)
theorem zc_lacks_0 : zP 87 142 [.int 0] := zpk_lacks (by decide) (by decide) (by decide +kernel)
theorem zc_lacks_1 : zP 87 142 [.int 1] := zpk_lacks (by decide) (by decide) (by decide +kernel)
theorem zc_lacks_2 : zP 87 142 [.int 2] := zpk_lacks (by decide) (by decide) (by decide +kernel)
theorem zc_spare_0 : zP 96 160 [.int 0] := zpk_spare (by decide) (by decide) (by decide +kernel)
theorem zc_spare_1 : zP 96 160 [.int 1] := zpk_spare (by decide) (by decide) (by decide +kernel)
theorem zc_spare_2 : zP 96 160 [.int 2] := zpk_spare (by decide) (by decide) (by decide +kernel)
theorem zc_many_0_0 : zP 90 144 [.int 0, .int 0] := zpk_many (by decide) (by decide) (by decide +kernel)
theorem zc_many_0_1 : zP 90 144 [.int 0, .int 1] := zpk_many (by decide) (by decide) (by decide +kernel)
theorem zc_many_0_2 : zP 90 144 [.int 0, .int 2] := zpk_many (by decide) (by decide) (by decide +kernel)
theorem zc_many_0_3 : zP 90 144 [.int 0, .int 3] := zpk_many (by decide) (by decide) (by decide +kernel)
theorem zc_many_0_4 : zP 90 144 [.int 0, .int 4] := zpk_many (by decide) (by decide) (by decide +kernel)
theorem zc_many_0_5 : zP 90 144 [.int 0, .int 5] := zpk_many (by decide) (by decide) (by decide +kernel)
theorem zc_many_0_6 : zP 90 144 [.int 0, .int 6] := zpk_many (by decide) (by decide) (by decide +kernel)
theorem zc_many_1_0 : zP 90 144 [.int 1, .int 0] := zpk_many (by decide) (by decide) (by decide +kernel)
theorem zc_many_1_1 : zP 90 144 [.int 1, .int 1] := zpk_many (by decide) (by decide) (by decide +kernel)
theorem zc_many_1_2 : zP 90 144 [.int 1, .int 2] := zpk_many (by decide) (by decide) (by decide +kernel)
theorem zc_many_1_3 : zP 90 144 [.int 1, .int 3] := zpk_many (by decide) (by decide) (by decide +kernel)
theorem zc_many_1_4 : zP 90 144 [.int 1, .int 4] := zpk_many (by decide) (by decide) (by decide +kernel)
theorem zc_many_1_5 : zP 90 144 [.int 1, .int 5] := zpk_many (by decide) (by decide) (by decide +kernel)
theorem zc_many_1_6 : zP 90 144 [.int 1, .int 6] := zpk_many (by decide) (by decide) (by decide +kernel)
theorem zc_many_2_0 : zP 90 144 [.int 2, .int 0] := zpk_many (by decide) (by decide) (by decide +kernel)
theorem zc_many_2_1 : zP 90 144 [.int 2, .int 1] := zpk_many (by decide) (by decide) (by decide +kernel)
theorem zc_many_2_2 : zP 90 144 [.int 2, .int 2] := zpk_many (by decide) (by decide) (by decide +kernel)
theorem zc_many_2_3 : zP 90 144 [.int 2, .int 3] := zpk_many (by decide) (by decide) (by decide +kernel)
theorem zc_many_2_4 : zP 90 144 [.int 2, .int 4] := zpk_many (by decide) (by decide) (by decide +kernel)
theorem zc_many_2_5 : zP 90 144 [.int 2, .int 5] := zpk_many (by decide) (by decide) (by decide +kernel)
theorem zc_many_2_6 : zP 90 144 [.int 2, .int 6] := zpk_many (by decide) (by decide) (by decide +kernel)
theorem zc_told_0_0_0 : zP 99 166 [.int 0, .int 0, .int 0] := zpk_told (by decide) (by decide) (by decide +kernel)
theorem zc_told_0_1_0 : zP 99 166 [.int 0, .int 1, .int 0] := zpk_told (by decide) (by decide) (by decide +kernel)
theorem zc_told_0_2_0 : zP 99 166 [.int 0, .int 2, .int 0] := zpk_told (by decide) (by decide) (by decide +kernel)
theorem zc_told_0_3_0 : zP 99 166 [.int 0, .int 3, .int 0] := zpk_told (by decide) (by decide) (by decide +kernel)
theorem zc_told_0_4_0 : zP 99 166 [.int 0, .int 4, .int 0] := zpk_told (by decide) (by decide) (by decide +kernel)
theorem zc_told_0_5_0 : zP 99 166 [.int 0, .int 5, .int 0] := zpk_told (by decide) (by decide) (by decide +kernel)
theorem zc_told_0_6_0 : zP 99 166 [.int 0, .int 6, .int 0] := zpk_told (by decide) (by decide) (by decide +kernel)
theorem zc_told_1_0_0 : zP 99 166 [.int 1, .int 0, .int 0] := zpk_told (by decide) (by decide) (by decide +kernel)
theorem zc_told_1_1_0 : zP 99 166 [.int 1, .int 1, .int 0] := zpk_told (by decide) (by decide) (by decide +kernel)
theorem zc_told_1_2_0 : zP 99 166 [.int 1, .int 2, .int 0] := zpk_told (by decide) (by decide) (by decide +kernel)
theorem zc_told_1_3_0 : zP 99 166 [.int 1, .int 3, .int 0] := zpk_told (by decide) (by decide) (by decide +kernel)
theorem zc_told_1_4_0 : zP 99 166 [.int 1, .int 4, .int 0] := zpk_told (by decide) (by decide) (by decide +kernel)
theorem zc_told_1_5_0 : zP 99 166 [.int 1, .int 5, .int 0] := zpk_told (by decide) (by decide) (by decide +kernel)
theorem zc_told_1_6_0 : zP 99 166 [.int 1, .int 6, .int 0] := zpk_told (by decide) (by decide) (by decide +kernel)
theorem zc_told_2_0_0 : zP 99 166 [.int 2, .int 0, .int 0] := zpk_told (by decide) (by decide) (by decide +kernel)
theorem zc_told_2_1_0 : zP 99 166 [.int 2, .int 1, .int 0] := zpk_told (by decide) (by decide) (by decide +kernel)
theorem zc_told_2_2_0 : zP 99 166 [.int 2, .int 2, .int 0] := zpk_told (by decide) (by decide) (by decide +kernel)
theorem zc_told_2_3_0 : zP 99 166 [.int 2, .int 3, .int 0] := zpk_told (by decide) (by decide) (by decide +kernel)
theorem zc_told_2_4_0 : zP 99 166 [.int 2, .int 4, .int 0] := zpk_told (by decide) (by decide) (by decide +kernel)
theorem zc_told_2_5_0 : zP 99 166 [.int 2, .int 5, .int 0] := zpk_told (by decide) (by decide) (by decide +kernel)
theorem zc_told_2_6_0 : zP 99 166 [.int 2, .int 6, .int 0] := zpk_told (by decide) (by decide) (by decide +kernel)
theorem zc_cluster_0_0 : zP 77 113 [.int 0, .int 0] := zpk_cluster (by decide) (by decide) (by decide +kernel)
theorem zc_cluster_1_0 : zP 77 113 [.int 1, .int 0] := zpk_cluster (by decide) (by decide) (by decide +kernel)
theorem zc_cluster_2_0 : zP 77 113 [.int 2, .int 0] := zpk_cluster (by decide) (by decide) (by decide +kernel)
theorem zc_holds_0 : zP 81 123 [.int 0] := zpk_holds (by decide) (by decide) (by decide +kernel)
theorem zc_holds_1 : zP 81 123 [.int 1] := zpk_holds (by decide) (by decide) (by decide +kernel)
theorem zc_holds_2 : zP 81 123 [.int 2] := zpk_holds (by decide) (by decide) (by decide +kernel)
end
section
/-! worlds behind matroidOf; calls with any arguments (printed by wip/gen/ref2.py) -/
theorem zq_6_86 : zcl 6 86 = some (3, 1, 16, 1) := by decide +kernel
theorem zqv_6_86_1 : zclv 6 86 1 = some (3, 1, 16, 1) := by decide +kernel
def zy0 : zW := zKw (zrunT 1000000 39 91 0 (zin 2 [.ref 1, .int 0]) [] zx4)
def za0 : Nat := match (zrunT 1000000 39 91 0 (zin 2 [.ref 1, .int 0]) [] zx4) with
  | some (some (.ref a), _) => a
  | _ => 0
theorem zy0_m : zmet 39 91 [.ref 1, .int 0] zx4 (some (.ref za0)) zy0 := zmetK zm_91 (by decide) (by decide +kernel)
theorem zy0_1 : zy0.1 1 = some (.inr (4, [.ref 2, .ref 7, .ref 8])) := zobj_ok (by decide +kernel)
theorem zy0_2 : zy0.1 2 = some (.inr (1, [.ref 3, .ref 4, .ref 5, .ref 6, .int 1, .int 0, .int 1])) := zobj_ok (by decide +kernel)
theorem zy0_9 : ∃ p ms, zy0.1 9 = some (.inr (5, .int 1 :: p :: .int 0 :: ms)) := by
  have h : (match zy0.1 9 with | some (.inr (5, .int 1 :: _ :: .int 0 :: _)) => true | _ => false) = true := by decide +kernel
  split at h
  · rename_i p ms hw
    exact ⟨p, ms, hw⟩
  · cases h
theorem zy0_r : zRm zy0 := zRm_ok (by decide +kernel)
def zy1 : zW := zKw (zrunT 1000000 39 91 0 (zin 2 [.ref 1, .int 1]) [] zx4)
def za1 : Nat := match (zrunT 1000000 39 91 0 (zin 2 [.ref 1, .int 1]) [] zx4) with
  | some (some (.ref a), _) => a
  | _ => 0
theorem zy1_m : zmet 39 91 [.ref 1, .int 1] zx4 (some (.ref za1)) zy1 := zmetK zm_91 (by decide) (by decide +kernel)
theorem zy1_1 : zy1.1 1 = some (.inr (4, [.ref 2, .ref 7, .ref 8])) := zobj_ok (by decide +kernel)
theorem zy1_2 : zy1.1 2 = some (.inr (1, [.ref 3, .ref 4, .ref 5, .ref 6, .int 1, .int 0, .int 1])) := zobj_ok (by decide +kernel)
theorem zy1_9 : ∃ p ms, zy1.1 9 = some (.inr (5, .int 1 :: p :: .int 0 :: ms)) := by
  have h : (match zy1.1 9 with | some (.inr (5, .int 1 :: _ :: .int 0 :: _)) => true | _ => false) = true := by decide +kernel
  split at h
  · rename_i p ms hw
    exact ⟨p, ms, hw⟩
  · cases h
theorem zy1_r : zRm zy1 := zRm_ok (by decide +kernel)
def zy2 : zW := zKw (zrunT 1000000 39 91 0 (zin 2 [.ref 1, .int 2]) [] zx4)
def za2 : Nat := match (zrunT 1000000 39 91 0 (zin 2 [.ref 1, .int 2]) [] zx4) with
  | some (some (.ref a), _) => a
  | _ => 0
theorem zy2_m : zmet 39 91 [.ref 1, .int 2] zx4 (some (.ref za2)) zy2 := zmetK zm_91 (by decide) (by decide +kernel)
theorem zy2_1 : zy2.1 1 = some (.inr (4, [.ref 2, .ref 7, .ref 8])) := zobj_ok (by decide +kernel)
theorem zy2_2 : zy2.1 2 = some (.inr (1, [.ref 3, .ref 4, .ref 5, .ref 6, .int 1, .int 0, .int 1])) := zobj_ok (by decide +kernel)
theorem zy2_9 : ∃ p ms, zy2.1 9 = some (.inr (5, .int 1 :: p :: .int 0 :: ms)) := by
  have h : (match zy2.1 9 with | some (.inr (5, .int 1 :: _ :: .int 0 :: _)) => true | _ => false) = true := by decide +kernel
  split at h
  · rename_i p ms hw
    exact ⟨p, ms, hw⟩
  · cases h
theorem zy2_r : zRm zy2 := zRm_ok (by decide +kernel)
theorem z012 {v : Int32} (h : ¬ (v < 0 ∨ 2 < v)) : v = 0 ∨ v = 1 ∨ v = 2 := by
  rw [Int32.lt_iff_toInt_lt, Int32.lt_iff_toInt_lt] at h
  have e0 : (0 : Int32).toInt = 0 := rfl
  have e2 : (2 : Int32).toInt = 2 := rfl
  have e : v.toInt = 0 ∨ v.toInt = 1 ∨ v.toInt = 2 := by omega
  rcases e with e | e | e
  · exact Or.inl (Int32.toInt_inj.mp e)
  · exact Or.inr (Or.inl (Int32.toInt_inj.mp e))
  · exact Or.inr (Or.inr (Int32.toInt_inj.mp e))
theorem z0s {v : Int32} (h : ¬ (v < 0 ∨ 1 <<< ((0 : Int32) &&& 31) - 1 < v)) : v = 0 := by
  rw [Int32.lt_iff_toInt_lt, Int32.lt_iff_toInt_lt] at h
  have e0 : (0 : Int32).toInt = 0 := rfl
  have e2 : ((1 : Int32) <<< ((0 : Int32) &&& 31) - 1).toInt = 0 := by decide
  exact Int32.toInt_inj.mp (by omega)
theorem z06 {v : Int32} (h : ¬ (v < 0 ∨ 6 < v)) : v = 0 ∨ v = 1 ∨ v = 2 ∨ v = 3 ∨ v = 4 ∨ v = 5 ∨ v = 6 := by
  rw [Int32.lt_iff_toInt_lt, Int32.lt_iff_toInt_lt] at h
  have e0 : (0 : Int32).toInt = 0 := rfl
  have e2 : (6 : Int32).toInt = 6 := rfl
  have e : v.toInt = 0 ∨ v.toInt = 1 ∨ v.toInt = 2 ∨ v.toInt = 3 ∨ v.toInt = 4 ∨ v.toInt = 5 ∨ v.toInt = 6 := by omega
  rcases e with e | e | e | e | e | e | e
  · exact Or.inl (Int32.toInt_inj.mp e)
  · exact Or.inr (Or.inl (Int32.toInt_inj.mp e))
  · exact Or.inr (Or.inr (Or.inl (Int32.toInt_inj.mp e)))
  · exact Or.inr (Or.inr (Or.inr (Or.inl (Int32.toInt_inj.mp e))))
  · exact Or.inr (Or.inr (Or.inr (Or.inr (Or.inl (Int32.toInt_inj.mp e)))))
  · exact Or.inr (Or.inr (Or.inr (Or.inr (Or.inr (Or.inl (Int32.toInt_inj.mp e))))))
  · exact Or.inr (Or.inr (Or.inr (Or.inr (Or.inr (Or.inr ((Int32.toInt_inj.mp e)))))))
theorem z17 {v : Int32} (h : ¬ (v < 1 ∨ 7 < v)) : v = 1 ∨ v = 2 ∨ v = 3 ∨ v = 4 ∨ v = 5 ∨ v = 6 ∨ v = 7 := by
  rw [Int32.lt_iff_toInt_lt, Int32.lt_iff_toInt_lt] at h
  have e0 : (1 : Int32).toInt = 1 := rfl
  have e2 : (7 : Int32).toInt = 7 := rfl
  have e : v.toInt = 1 ∨ v.toInt = 2 ∨ v.toInt = 3 ∨ v.toInt = 4 ∨ v.toInt = 5 ∨ v.toInt = 6 ∨ v.toInt = 7 := by omega
  rcases e with e | e | e | e | e | e | e
  · exact Or.inl (Int32.toInt_inj.mp e)
  · exact Or.inr (Or.inl (Int32.toInt_inj.mp e))
  · exact Or.inr (Or.inr (Or.inl (Int32.toInt_inj.mp e)))
  · exact Or.inr (Or.inr (Or.inr (Or.inl (Int32.toInt_inj.mp e))))
  · exact Or.inr (Or.inr (Or.inr (Or.inr (Or.inl (Int32.toInt_inj.mp e)))))
  · exact Or.inr (Or.inr (Or.inr (Or.inr (Or.inr (Or.inl (Int32.toInt_inj.mp e))))))
  · exact Or.inr (Or.inr (Or.inr (Or.inr (Or.inr (Or.inr ((Int32.toInt_inj.mp e)))))))
theorem z7n {b : Int32} (h : 6 < b) : ¬ b < 7 := by
  rw [Int32.lt_iff_toInt_lt] at h ⊢
  have e6 : (6 : Int32).toInt = 6 := rfl
  have e7 : (7 : Int32).toInt = 7 := rfl
  omega
theorem s_rank0 {w1 : zW} {za : Nat} (hm : zmet 39 91 [.ref 1, .int 0] zx4 (some (.ref za)) w1) (k1 : w1.1 1 = some (.inr (4, [.ref 2, .ref 7, .ref 8]))) (k2 : w1.1 2 = some (.inr (1, [.ref 3, .ref 4, .ref 5, .ref 6, .int 1, .int 0, .int 1]))) {b : Int32} (hb : b < 0 ∨ 1 <<< ((0 : Int32) &&& 31) - 1 < b) : zmet 40 93 [.ref 1, .int 0, .int b] zx4 (some (.int (-2))) w1 := by
  refine ⟨_, rfl, Nat.le_of_ble_eq_true rfl, ?_⟩
  show zev 40 93 0 [some (.ref 1), some (.int 0), some (.int b), none] [] zx4 _ _
  refine zt (pc' := 1) ((zd_93 _).trans rfl) zm_93 rfl rfl ?_
  refine zt (pc' := 2) ((zd_93 _).trans rfl) zm_93 rfl rfl ?_
  refine zt_V (pc' := 5) ((zd_93 _).trans rfl) zm_93 rfl zq_6_82 rfl (Nat.le_of_ble_eq_true rfl) zx4_1 zqv_6_82_4 (by decide) rfl (hm) ?_
  refine zt (pc' := 6) ((zd_93 _).trans rfl) zm_93 rfl rfl ?_
  refine zt (pc' := 7) ((zd_93 _).trans rfl) zm_93 rfl rfl ?_
  refine zt (pc' := 10) ((zd_93 _).trans rfl) zm_93 rfl rfl ?_
  refine zt (pc' := 11) ((zd_93 _).trans rfl) zm_93 rfl rfl ?_
  refine zt_get (pc' := 14) ((zd_93 _).trans rfl) zm_93 rfl rfl k1 (by decide) rfl ?_
  refine zt (pc' := 15) ((zd_93 _).trans rfl) zm_93 rfl rfl ?_
  refine zt_V (pc' := 18) ((zd_93 _).trans rfl) zm_93 rfl zq_6_86 rfl (Nat.le_of_ble_eq_true rfl) k2 zqv_6_86_1 (by decide) rfl (c_hasSet0 k2 hb) ?_
  refine zt_ifF (tgt := 24) (pc' := 21) ((zd_93 _).trans rfl) zm_93 rfl rfl (znne rfl) ?_
  refine zt (pc' := 23) ((zd_93 _).trans rfl) zm_93 rfl rfl ?_
  exact zte ((zd_93 _).trans rfl) zm_93 rfl
theorem s_closure0 {w1 : zW} {za : Nat} (hm : zmet 39 91 [.ref 1, .int 0] zx4 (some (.ref za)) w1) (k1 : w1.1 1 = some (.inr (4, [.ref 2, .ref 7, .ref 8]))) (k2 : w1.1 2 = some (.inr (1, [.ref 3, .ref 4, .ref 5, .ref 6, .int 1, .int 0, .int 1]))) {b : Int32} (hb : b < 0 ∨ 1 <<< ((0 : Int32) &&& 31) - 1 < b) : zmet 40 76 [.ref 1, .int 0, .int b] zx4 (some (.int (-2))) w1 := by
  refine ⟨_, rfl, Nat.le_of_ble_eq_true rfl, ?_⟩
  show zev 40 76 0 [some (.ref 1), some (.int 0), some (.int b), none] [] zx4 _ _
  refine zt (pc' := 1) ((zd_76 _).trans rfl) zm_76 rfl rfl ?_
  refine zt (pc' := 2) ((zd_76 _).trans rfl) zm_76 rfl rfl ?_
  refine zt_V (pc' := 5) ((zd_76 _).trans rfl) zm_76 rfl zq_6_82 rfl (Nat.le_of_ble_eq_true rfl) zx4_1 zqv_6_82_4 (by decide) rfl (hm) ?_
  refine zt (pc' := 6) ((zd_76 _).trans rfl) zm_76 rfl rfl ?_
  refine zt (pc' := 7) ((zd_76 _).trans rfl) zm_76 rfl rfl ?_
  refine zt (pc' := 10) ((zd_76 _).trans rfl) zm_76 rfl rfl ?_
  refine zt (pc' := 11) ((zd_76 _).trans rfl) zm_76 rfl rfl ?_
  refine zt_get (pc' := 14) ((zd_76 _).trans rfl) zm_76 rfl rfl k1 (by decide) rfl ?_
  refine zt (pc' := 15) ((zd_76 _).trans rfl) zm_76 rfl rfl ?_
  refine zt_V (pc' := 18) ((zd_76 _).trans rfl) zm_76 rfl zq_6_86 rfl (Nat.le_of_ble_eq_true rfl) k2 zqv_6_86_1 (by decide) rfl (c_hasSet0 k2 hb) ?_
  refine zt_ifF (tgt := 24) (pc' := 21) ((zd_76 _).trans rfl) zm_76 rfl rfl (znne rfl) ?_
  refine zt (pc' := 23) ((zd_76 _).trans rfl) zm_76 rfl rfl ?_
  exact zte ((zd_76 _).trans rfl) zm_76 rfl
theorem s_implied0 {w1 : zW} {za : Nat} (hm : zmet 39 91 [.ref 1, .int 0] zx4 (some (.ref za)) w1) (k1 : w1.1 1 = some (.inr (4, [.ref 2, .ref 7, .ref 8]))) (k2 : w1.1 2 = some (.inr (1, [.ref 3, .ref 4, .ref 5, .ref 6, .int 1, .int 0, .int 1]))) {a b c : Int32} : zmet 40 82 [.ref 1, .int 0, .int a, .int b, .int c] zx4 (some (.int (-2))) w1 := by
  refine ⟨_, rfl, Nat.le_of_ble_eq_true rfl, ?_⟩
  show zev 40 82 0 [some (.ref 1), some (.int 0), some (.int a), some (.int b), some (.int c), none] [] zx4 _ _
  refine zt (pc' := 1) ((zd_82 _).trans rfl) zm_82 rfl rfl ?_
  refine zt (pc' := 2) ((zd_82 _).trans rfl) zm_82 rfl rfl ?_
  refine zt_V (pc' := 5) ((zd_82 _).trans rfl) zm_82 rfl zq_6_82 rfl (Nat.le_of_ble_eq_true rfl) zx4_1 zqv_6_82_4 (by decide) rfl (hm) ?_
  refine zt (pc' := 7) ((zd_82 _).trans rfl) zm_82 rfl rfl ?_
  refine zt (pc' := 9) ((zd_82 _).trans rfl) zm_82 rfl rfl ?_
  refine zt (pc' := 12) ((zd_82 _).trans rfl) zm_82 rfl rfl ?_
  refine zt (pc' := 13) ((zd_82 _).trans rfl) zm_82 rfl rfl ?_
  refine zt (pc' := 14) ((zd_82 _).trans rfl) zm_82 rfl rfl ?_
  refine zt (pc' := 15) ((zd_82 _).trans rfl) zm_82 rfl rfl ?_
  refine zt_V (pc' := 18) ((zd_82 _).trans rfl) zm_82 rfl zq_6_45 rfl (Nat.le_of_ble_eq_true rfl) k1 zqv_6_45_4 (by decide) rfl (c_isPair0 k1 k2) ?_
  refine zt_ifT (tgt := 33) (pc' := 21) ((zd_82 _).trans rfl) zm_82 rfl rfl (zeq rfl) ?_
  refine zt (pc' := 35) ((zd_82 _).trans rfl) zm_82 rfl rfl ?_
  exact zte ((zd_82 _).trans rfl) zm_82 rfl
theorem s_many0 {w1 : zW} {za : Nat} (hm : zmet 39 91 [.ref 1, .int 0] zx4 (some (.ref za)) w1) {b : Int32} (hb : b < 0 ∨ 6 < b) : zmet 40 90 [.ref 1, .int 0, .int b] zx4 (some (.int (-2))) w1 := by
  refine ⟨_, rfl, Nat.le_of_ble_eq_true rfl, ?_⟩
  show zev 40 90 0 [some (.ref 1), some (.int 0), some (.int b), none] [] zx4 _ _
  by_cases h1 : b < 0
  · refine zt (pc' := 1) ((zd_90 _).trans rfl) zm_90 rfl rfl ?_
    refine zt (pc' := 2) ((zd_90 _).trans rfl) zm_90 rfl rfl ?_
    refine zt_V (pc' := 5) ((zd_90 _).trans rfl) zm_90 rfl zq_6_82 rfl (Nat.le_of_ble_eq_true rfl) zx4_1 zqv_6_82_4 (by decide) rfl (hm) ?_
    refine zt (pc' := 6) ((zd_90 _).trans rfl) zm_90 rfl rfl ?_
    refine zt (pc' := 7) ((zd_90 _).trans rfl) zm_90 rfl rfl ?_
    refine zt (pc' := 10) ((zd_90 _).trans rfl) zm_90 rfl rfl ?_
    refine zt (pc' := 11) ((zd_90 _).trans rfl) zm_90 rfl rfl ?_
    refine zt_ifT (tgt := 20) (pc' := 14) ((zd_90 _).trans rfl) zm_90 rfl rfl (zlt h1) ?_
    refine zt (pc' := 22) ((zd_90 _).trans rfl) zm_90 rfl rfl ?_
    exact zte ((zd_90 _).trans rfl) zm_90 rfl
  · have h2 : ¬ b < 7 := z7n (hb.resolve_left h1)
    refine zt (pc' := 1) ((zd_90 _).trans rfl) zm_90 rfl rfl ?_
    refine zt (pc' := 2) ((zd_90 _).trans rfl) zm_90 rfl rfl ?_
    refine zt_V (pc' := 5) ((zd_90 _).trans rfl) zm_90 rfl zq_6_82 rfl (Nat.le_of_ble_eq_true rfl) zx4_1 zqv_6_82_4 (by decide) rfl (hm) ?_
    refine zt (pc' := 6) ((zd_90 _).trans rfl) zm_90 rfl rfl ?_
    refine zt (pc' := 7) ((zd_90 _).trans rfl) zm_90 rfl rfl ?_
    refine zt (pc' := 10) ((zd_90 _).trans rfl) zm_90 rfl rfl ?_
    refine zt (pc' := 11) ((zd_90 _).trans rfl) zm_90 rfl rfl ?_
    refine zt_ifF (tgt := 20) (pc' := 14) ((zd_90 _).trans rfl) zm_90 rfl rfl (znlt h1) ?_
    refine zt (pc' := 15) ((zd_90 _).trans rfl) zm_90 rfl rfl ?_
    refine zt (pc' := 17) ((zd_90 _).trans rfl) zm_90 rfl rfl ?_
    refine zt_icF (tgt := 23) (pc' := 20) ((zd_90 _).trans rfl) zm_90 rfl rfl (znlt h2) ?_
    refine zt (pc' := 22) ((zd_90 _).trans rfl) zm_90 rfl rfl ?_
    exact zte ((zd_90 _).trans rfl) zm_90 rfl
theorem s_told0 {w1 : zW} {za : Nat} (hm : zmet 39 91 [.ref 1, .int 0] zx4 (some (.ref za)) w1) {b c : Int32} (hb : b < 0 ∨ 6 < b) : zmet 40 99 [.ref 1, .int 0, .int b, .int c] zx4 (some (.int (-2))) w1 := by
  refine ⟨_, rfl, Nat.le_of_ble_eq_true rfl, ?_⟩
  show zev 40 99 0 [some (.ref 1), some (.int 0), some (.int b), some (.int c), none] [] zx4 _ _
  by_cases h1 : b < 0
  · refine zt (pc' := 1) ((zd_99 _).trans rfl) zm_99 rfl rfl ?_
    refine zt (pc' := 2) ((zd_99 _).trans rfl) zm_99 rfl rfl ?_
    refine zt_V (pc' := 5) ((zd_99 _).trans rfl) zm_99 rfl zq_6_82 rfl (Nat.le_of_ble_eq_true rfl) zx4_1 zqv_6_82_4 (by decide) rfl (hm) ?_
    refine zt (pc' := 7) ((zd_99 _).trans rfl) zm_99 rfl rfl ?_
    refine zt (pc' := 9) ((zd_99 _).trans rfl) zm_99 rfl rfl ?_
    refine zt (pc' := 12) ((zd_99 _).trans rfl) zm_99 rfl rfl ?_
    refine zt (pc' := 13) ((zd_99 _).trans rfl) zm_99 rfl rfl ?_
    refine zt_ifT (tgt := 22) (pc' := 16) ((zd_99 _).trans rfl) zm_99 rfl rfl (zlt h1) ?_
    refine zt (pc' := 24) ((zd_99 _).trans rfl) zm_99 rfl rfl ?_
    exact zte ((zd_99 _).trans rfl) zm_99 rfl
  · have h2 : ¬ b < 7 := z7n (hb.resolve_left h1)
    refine zt (pc' := 1) ((zd_99 _).trans rfl) zm_99 rfl rfl ?_
    refine zt (pc' := 2) ((zd_99 _).trans rfl) zm_99 rfl rfl ?_
    refine zt_V (pc' := 5) ((zd_99 _).trans rfl) zm_99 rfl zq_6_82 rfl (Nat.le_of_ble_eq_true rfl) zx4_1 zqv_6_82_4 (by decide) rfl (hm) ?_
    refine zt (pc' := 7) ((zd_99 _).trans rfl) zm_99 rfl rfl ?_
    refine zt (pc' := 9) ((zd_99 _).trans rfl) zm_99 rfl rfl ?_
    refine zt (pc' := 12) ((zd_99 _).trans rfl) zm_99 rfl rfl ?_
    refine zt (pc' := 13) ((zd_99 _).trans rfl) zm_99 rfl rfl ?_
    refine zt_ifF (tgt := 22) (pc' := 16) ((zd_99 _).trans rfl) zm_99 rfl rfl (znlt h1) ?_
    refine zt (pc' := 17) ((zd_99 _).trans rfl) zm_99 rfl rfl ?_
    refine zt (pc' := 19) ((zd_99 _).trans rfl) zm_99 rfl rfl ?_
    refine zt_icF (tgt := 25) (pc' := 22) ((zd_99 _).trans rfl) zm_99 rfl rfl (znlt h2) ?_
    refine zt (pc' := 24) ((zd_99 _).trans rfl) zm_99 rfl rfl ?_
    exact zte ((zd_99 _).trans rfl) zm_99 rfl
theorem s_rank1 {w1 : zW} {za : Nat} (hm : zmet 39 91 [.ref 1, .int 1] zx4 (some (.ref za)) w1) (k1 : w1.1 1 = some (.inr (4, [.ref 2, .ref 7, .ref 8]))) (k2 : w1.1 2 = some (.inr (1, [.ref 3, .ref 4, .ref 5, .ref 6, .int 1, .int 0, .int 1]))) {b : Int32} (hb : b < 0 ∨ 1 <<< ((0 : Int32) &&& 31) - 1 < b) : zmet 40 93 [.ref 1, .int 1, .int b] zx4 (some (.int (-2))) w1 := by
  refine ⟨_, rfl, Nat.le_of_ble_eq_true rfl, ?_⟩
  show zev 40 93 0 [some (.ref 1), some (.int 1), some (.int b), none] [] zx4 _ _
  refine zt (pc' := 1) ((zd_93 _).trans rfl) zm_93 rfl rfl ?_
  refine zt (pc' := 2) ((zd_93 _).trans rfl) zm_93 rfl rfl ?_
  refine zt_V (pc' := 5) ((zd_93 _).trans rfl) zm_93 rfl zq_6_82 rfl (Nat.le_of_ble_eq_true rfl) zx4_1 zqv_6_82_4 (by decide) rfl (hm) ?_
  refine zt (pc' := 6) ((zd_93 _).trans rfl) zm_93 rfl rfl ?_
  refine zt (pc' := 7) ((zd_93 _).trans rfl) zm_93 rfl rfl ?_
  refine zt (pc' := 10) ((zd_93 _).trans rfl) zm_93 rfl rfl ?_
  refine zt (pc' := 11) ((zd_93 _).trans rfl) zm_93 rfl rfl ?_
  refine zt_get (pc' := 14) ((zd_93 _).trans rfl) zm_93 rfl rfl k1 (by decide) rfl ?_
  refine zt (pc' := 15) ((zd_93 _).trans rfl) zm_93 rfl rfl ?_
  refine zt_V (pc' := 18) ((zd_93 _).trans rfl) zm_93 rfl zq_6_86 rfl (Nat.le_of_ble_eq_true rfl) k2 zqv_6_86_1 (by decide) rfl (c_hasSet0 k2 hb) ?_
  refine zt_ifF (tgt := 24) (pc' := 21) ((zd_93 _).trans rfl) zm_93 rfl rfl (znne rfl) ?_
  refine zt (pc' := 23) ((zd_93 _).trans rfl) zm_93 rfl rfl ?_
  exact zte ((zd_93 _).trans rfl) zm_93 rfl
theorem s_closure1 {w1 : zW} {za : Nat} (hm : zmet 39 91 [.ref 1, .int 1] zx4 (some (.ref za)) w1) (k1 : w1.1 1 = some (.inr (4, [.ref 2, .ref 7, .ref 8]))) (k2 : w1.1 2 = some (.inr (1, [.ref 3, .ref 4, .ref 5, .ref 6, .int 1, .int 0, .int 1]))) {b : Int32} (hb : b < 0 ∨ 1 <<< ((0 : Int32) &&& 31) - 1 < b) : zmet 40 76 [.ref 1, .int 1, .int b] zx4 (some (.int (-2))) w1 := by
  refine ⟨_, rfl, Nat.le_of_ble_eq_true rfl, ?_⟩
  show zev 40 76 0 [some (.ref 1), some (.int 1), some (.int b), none] [] zx4 _ _
  refine zt (pc' := 1) ((zd_76 _).trans rfl) zm_76 rfl rfl ?_
  refine zt (pc' := 2) ((zd_76 _).trans rfl) zm_76 rfl rfl ?_
  refine zt_V (pc' := 5) ((zd_76 _).trans rfl) zm_76 rfl zq_6_82 rfl (Nat.le_of_ble_eq_true rfl) zx4_1 zqv_6_82_4 (by decide) rfl (hm) ?_
  refine zt (pc' := 6) ((zd_76 _).trans rfl) zm_76 rfl rfl ?_
  refine zt (pc' := 7) ((zd_76 _).trans rfl) zm_76 rfl rfl ?_
  refine zt (pc' := 10) ((zd_76 _).trans rfl) zm_76 rfl rfl ?_
  refine zt (pc' := 11) ((zd_76 _).trans rfl) zm_76 rfl rfl ?_
  refine zt_get (pc' := 14) ((zd_76 _).trans rfl) zm_76 rfl rfl k1 (by decide) rfl ?_
  refine zt (pc' := 15) ((zd_76 _).trans rfl) zm_76 rfl rfl ?_
  refine zt_V (pc' := 18) ((zd_76 _).trans rfl) zm_76 rfl zq_6_86 rfl (Nat.le_of_ble_eq_true rfl) k2 zqv_6_86_1 (by decide) rfl (c_hasSet0 k2 hb) ?_
  refine zt_ifF (tgt := 24) (pc' := 21) ((zd_76 _).trans rfl) zm_76 rfl rfl (znne rfl) ?_
  refine zt (pc' := 23) ((zd_76 _).trans rfl) zm_76 rfl rfl ?_
  exact zte ((zd_76 _).trans rfl) zm_76 rfl
theorem s_implied1 {w1 : zW} {za : Nat} (hm : zmet 39 91 [.ref 1, .int 1] zx4 (some (.ref za)) w1) (k1 : w1.1 1 = some (.inr (4, [.ref 2, .ref 7, .ref 8]))) (k2 : w1.1 2 = some (.inr (1, [.ref 3, .ref 4, .ref 5, .ref 6, .int 1, .int 0, .int 1]))) {a b c : Int32} : zmet 40 82 [.ref 1, .int 1, .int a, .int b, .int c] zx4 (some (.int (-2))) w1 := by
  refine ⟨_, rfl, Nat.le_of_ble_eq_true rfl, ?_⟩
  show zev 40 82 0 [some (.ref 1), some (.int 1), some (.int a), some (.int b), some (.int c), none] [] zx4 _ _
  refine zt (pc' := 1) ((zd_82 _).trans rfl) zm_82 rfl rfl ?_
  refine zt (pc' := 2) ((zd_82 _).trans rfl) zm_82 rfl rfl ?_
  refine zt_V (pc' := 5) ((zd_82 _).trans rfl) zm_82 rfl zq_6_82 rfl (Nat.le_of_ble_eq_true rfl) zx4_1 zqv_6_82_4 (by decide) rfl (hm) ?_
  refine zt (pc' := 7) ((zd_82 _).trans rfl) zm_82 rfl rfl ?_
  refine zt (pc' := 9) ((zd_82 _).trans rfl) zm_82 rfl rfl ?_
  refine zt (pc' := 12) ((zd_82 _).trans rfl) zm_82 rfl rfl ?_
  refine zt (pc' := 13) ((zd_82 _).trans rfl) zm_82 rfl rfl ?_
  refine zt (pc' := 14) ((zd_82 _).trans rfl) zm_82 rfl rfl ?_
  refine zt (pc' := 15) ((zd_82 _).trans rfl) zm_82 rfl rfl ?_
  refine zt_V (pc' := 18) ((zd_82 _).trans rfl) zm_82 rfl zq_6_45 rfl (Nat.le_of_ble_eq_true rfl) k1 zqv_6_45_4 (by decide) rfl (c_isPair0 k1 k2) ?_
  refine zt_ifT (tgt := 33) (pc' := 21) ((zd_82 _).trans rfl) zm_82 rfl rfl (zeq rfl) ?_
  refine zt (pc' := 35) ((zd_82 _).trans rfl) zm_82 rfl rfl ?_
  exact zte ((zd_82 _).trans rfl) zm_82 rfl
theorem s_many1 {w1 : zW} {za : Nat} (hm : zmet 39 91 [.ref 1, .int 1] zx4 (some (.ref za)) w1) {b : Int32} (hb : b < 0 ∨ 6 < b) : zmet 40 90 [.ref 1, .int 1, .int b] zx4 (some (.int (-2))) w1 := by
  refine ⟨_, rfl, Nat.le_of_ble_eq_true rfl, ?_⟩
  show zev 40 90 0 [some (.ref 1), some (.int 1), some (.int b), none] [] zx4 _ _
  by_cases h1 : b < 0
  · refine zt (pc' := 1) ((zd_90 _).trans rfl) zm_90 rfl rfl ?_
    refine zt (pc' := 2) ((zd_90 _).trans rfl) zm_90 rfl rfl ?_
    refine zt_V (pc' := 5) ((zd_90 _).trans rfl) zm_90 rfl zq_6_82 rfl (Nat.le_of_ble_eq_true rfl) zx4_1 zqv_6_82_4 (by decide) rfl (hm) ?_
    refine zt (pc' := 6) ((zd_90 _).trans rfl) zm_90 rfl rfl ?_
    refine zt (pc' := 7) ((zd_90 _).trans rfl) zm_90 rfl rfl ?_
    refine zt (pc' := 10) ((zd_90 _).trans rfl) zm_90 rfl rfl ?_
    refine zt (pc' := 11) ((zd_90 _).trans rfl) zm_90 rfl rfl ?_
    refine zt_ifT (tgt := 20) (pc' := 14) ((zd_90 _).trans rfl) zm_90 rfl rfl (zlt h1) ?_
    refine zt (pc' := 22) ((zd_90 _).trans rfl) zm_90 rfl rfl ?_
    exact zte ((zd_90 _).trans rfl) zm_90 rfl
  · have h2 : ¬ b < 7 := z7n (hb.resolve_left h1)
    refine zt (pc' := 1) ((zd_90 _).trans rfl) zm_90 rfl rfl ?_
    refine zt (pc' := 2) ((zd_90 _).trans rfl) zm_90 rfl rfl ?_
    refine zt_V (pc' := 5) ((zd_90 _).trans rfl) zm_90 rfl zq_6_82 rfl (Nat.le_of_ble_eq_true rfl) zx4_1 zqv_6_82_4 (by decide) rfl (hm) ?_
    refine zt (pc' := 6) ((zd_90 _).trans rfl) zm_90 rfl rfl ?_
    refine zt (pc' := 7) ((zd_90 _).trans rfl) zm_90 rfl rfl ?_
    refine zt (pc' := 10) ((zd_90 _).trans rfl) zm_90 rfl rfl ?_
    refine zt (pc' := 11) ((zd_90 _).trans rfl) zm_90 rfl rfl ?_
    refine zt_ifF (tgt := 20) (pc' := 14) ((zd_90 _).trans rfl) zm_90 rfl rfl (znlt h1) ?_
    refine zt (pc' := 15) ((zd_90 _).trans rfl) zm_90 rfl rfl ?_
    refine zt (pc' := 17) ((zd_90 _).trans rfl) zm_90 rfl rfl ?_
    refine zt_icF (tgt := 23) (pc' := 20) ((zd_90 _).trans rfl) zm_90 rfl rfl (znlt h2) ?_
    refine zt (pc' := 22) ((zd_90 _).trans rfl) zm_90 rfl rfl ?_
    exact zte ((zd_90 _).trans rfl) zm_90 rfl
theorem s_told1 {w1 : zW} {za : Nat} (hm : zmet 39 91 [.ref 1, .int 1] zx4 (some (.ref za)) w1) {b c : Int32} (hb : b < 0 ∨ 6 < b) : zmet 40 99 [.ref 1, .int 1, .int b, .int c] zx4 (some (.int (-2))) w1 := by
  refine ⟨_, rfl, Nat.le_of_ble_eq_true rfl, ?_⟩
  show zev 40 99 0 [some (.ref 1), some (.int 1), some (.int b), some (.int c), none] [] zx4 _ _
  by_cases h1 : b < 0
  · refine zt (pc' := 1) ((zd_99 _).trans rfl) zm_99 rfl rfl ?_
    refine zt (pc' := 2) ((zd_99 _).trans rfl) zm_99 rfl rfl ?_
    refine zt_V (pc' := 5) ((zd_99 _).trans rfl) zm_99 rfl zq_6_82 rfl (Nat.le_of_ble_eq_true rfl) zx4_1 zqv_6_82_4 (by decide) rfl (hm) ?_
    refine zt (pc' := 7) ((zd_99 _).trans rfl) zm_99 rfl rfl ?_
    refine zt (pc' := 9) ((zd_99 _).trans rfl) zm_99 rfl rfl ?_
    refine zt (pc' := 12) ((zd_99 _).trans rfl) zm_99 rfl rfl ?_
    refine zt (pc' := 13) ((zd_99 _).trans rfl) zm_99 rfl rfl ?_
    refine zt_ifT (tgt := 22) (pc' := 16) ((zd_99 _).trans rfl) zm_99 rfl rfl (zlt h1) ?_
    refine zt (pc' := 24) ((zd_99 _).trans rfl) zm_99 rfl rfl ?_
    exact zte ((zd_99 _).trans rfl) zm_99 rfl
  · have h2 : ¬ b < 7 := z7n (hb.resolve_left h1)
    refine zt (pc' := 1) ((zd_99 _).trans rfl) zm_99 rfl rfl ?_
    refine zt (pc' := 2) ((zd_99 _).trans rfl) zm_99 rfl rfl ?_
    refine zt_V (pc' := 5) ((zd_99 _).trans rfl) zm_99 rfl zq_6_82 rfl (Nat.le_of_ble_eq_true rfl) zx4_1 zqv_6_82_4 (by decide) rfl (hm) ?_
    refine zt (pc' := 7) ((zd_99 _).trans rfl) zm_99 rfl rfl ?_
    refine zt (pc' := 9) ((zd_99 _).trans rfl) zm_99 rfl rfl ?_
    refine zt (pc' := 12) ((zd_99 _).trans rfl) zm_99 rfl rfl ?_
    refine zt (pc' := 13) ((zd_99 _).trans rfl) zm_99 rfl rfl ?_
    refine zt_ifF (tgt := 22) (pc' := 16) ((zd_99 _).trans rfl) zm_99 rfl rfl (znlt h1) ?_
    refine zt (pc' := 17) ((zd_99 _).trans rfl) zm_99 rfl rfl ?_
    refine zt (pc' := 19) ((zd_99 _).trans rfl) zm_99 rfl rfl ?_
    refine zt_icF (tgt := 25) (pc' := 22) ((zd_99 _).trans rfl) zm_99 rfl rfl (znlt h2) ?_
    refine zt (pc' := 24) ((zd_99 _).trans rfl) zm_99 rfl rfl ?_
    exact zte ((zd_99 _).trans rfl) zm_99 rfl
theorem s_rank2 {w1 : zW} {za : Nat} (hm : zmet 39 91 [.ref 1, .int 2] zx4 (some (.ref za)) w1) (k1 : w1.1 1 = some (.inr (4, [.ref 2, .ref 7, .ref 8]))) (k2 : w1.1 2 = some (.inr (1, [.ref 3, .ref 4, .ref 5, .ref 6, .int 1, .int 0, .int 1]))) {b : Int32} (hb : b < 0 ∨ 1 <<< ((0 : Int32) &&& 31) - 1 < b) : zmet 40 93 [.ref 1, .int 2, .int b] zx4 (some (.int (-2))) w1 := by
  refine ⟨_, rfl, Nat.le_of_ble_eq_true rfl, ?_⟩
  show zev 40 93 0 [some (.ref 1), some (.int 2), some (.int b), none] [] zx4 _ _
  refine zt (pc' := 1) ((zd_93 _).trans rfl) zm_93 rfl rfl ?_
  refine zt (pc' := 2) ((zd_93 _).trans rfl) zm_93 rfl rfl ?_
  refine zt_V (pc' := 5) ((zd_93 _).trans rfl) zm_93 rfl zq_6_82 rfl (Nat.le_of_ble_eq_true rfl) zx4_1 zqv_6_82_4 (by decide) rfl (hm) ?_
  refine zt (pc' := 6) ((zd_93 _).trans rfl) zm_93 rfl rfl ?_
  refine zt (pc' := 7) ((zd_93 _).trans rfl) zm_93 rfl rfl ?_
  refine zt (pc' := 10) ((zd_93 _).trans rfl) zm_93 rfl rfl ?_
  refine zt (pc' := 11) ((zd_93 _).trans rfl) zm_93 rfl rfl ?_
  refine zt_get (pc' := 14) ((zd_93 _).trans rfl) zm_93 rfl rfl k1 (by decide) rfl ?_
  refine zt (pc' := 15) ((zd_93 _).trans rfl) zm_93 rfl rfl ?_
  refine zt_V (pc' := 18) ((zd_93 _).trans rfl) zm_93 rfl zq_6_86 rfl (Nat.le_of_ble_eq_true rfl) k2 zqv_6_86_1 (by decide) rfl (c_hasSet0 k2 hb) ?_
  refine zt_ifF (tgt := 24) (pc' := 21) ((zd_93 _).trans rfl) zm_93 rfl rfl (znne rfl) ?_
  refine zt (pc' := 23) ((zd_93 _).trans rfl) zm_93 rfl rfl ?_
  exact zte ((zd_93 _).trans rfl) zm_93 rfl
theorem s_closure2 {w1 : zW} {za : Nat} (hm : zmet 39 91 [.ref 1, .int 2] zx4 (some (.ref za)) w1) (k1 : w1.1 1 = some (.inr (4, [.ref 2, .ref 7, .ref 8]))) (k2 : w1.1 2 = some (.inr (1, [.ref 3, .ref 4, .ref 5, .ref 6, .int 1, .int 0, .int 1]))) {b : Int32} (hb : b < 0 ∨ 1 <<< ((0 : Int32) &&& 31) - 1 < b) : zmet 40 76 [.ref 1, .int 2, .int b] zx4 (some (.int (-2))) w1 := by
  refine ⟨_, rfl, Nat.le_of_ble_eq_true rfl, ?_⟩
  show zev 40 76 0 [some (.ref 1), some (.int 2), some (.int b), none] [] zx4 _ _
  refine zt (pc' := 1) ((zd_76 _).trans rfl) zm_76 rfl rfl ?_
  refine zt (pc' := 2) ((zd_76 _).trans rfl) zm_76 rfl rfl ?_
  refine zt_V (pc' := 5) ((zd_76 _).trans rfl) zm_76 rfl zq_6_82 rfl (Nat.le_of_ble_eq_true rfl) zx4_1 zqv_6_82_4 (by decide) rfl (hm) ?_
  refine zt (pc' := 6) ((zd_76 _).trans rfl) zm_76 rfl rfl ?_
  refine zt (pc' := 7) ((zd_76 _).trans rfl) zm_76 rfl rfl ?_
  refine zt (pc' := 10) ((zd_76 _).trans rfl) zm_76 rfl rfl ?_
  refine zt (pc' := 11) ((zd_76 _).trans rfl) zm_76 rfl rfl ?_
  refine zt_get (pc' := 14) ((zd_76 _).trans rfl) zm_76 rfl rfl k1 (by decide) rfl ?_
  refine zt (pc' := 15) ((zd_76 _).trans rfl) zm_76 rfl rfl ?_
  refine zt_V (pc' := 18) ((zd_76 _).trans rfl) zm_76 rfl zq_6_86 rfl (Nat.le_of_ble_eq_true rfl) k2 zqv_6_86_1 (by decide) rfl (c_hasSet0 k2 hb) ?_
  refine zt_ifF (tgt := 24) (pc' := 21) ((zd_76 _).trans rfl) zm_76 rfl rfl (znne rfl) ?_
  refine zt (pc' := 23) ((zd_76 _).trans rfl) zm_76 rfl rfl ?_
  exact zte ((zd_76 _).trans rfl) zm_76 rfl
theorem s_implied2 {w1 : zW} {za : Nat} (hm : zmet 39 91 [.ref 1, .int 2] zx4 (some (.ref za)) w1) (k1 : w1.1 1 = some (.inr (4, [.ref 2, .ref 7, .ref 8]))) (k2 : w1.1 2 = some (.inr (1, [.ref 3, .ref 4, .ref 5, .ref 6, .int 1, .int 0, .int 1]))) {a b c : Int32} : zmet 40 82 [.ref 1, .int 2, .int a, .int b, .int c] zx4 (some (.int (-2))) w1 := by
  refine ⟨_, rfl, Nat.le_of_ble_eq_true rfl, ?_⟩
  show zev 40 82 0 [some (.ref 1), some (.int 2), some (.int a), some (.int b), some (.int c), none] [] zx4 _ _
  refine zt (pc' := 1) ((zd_82 _).trans rfl) zm_82 rfl rfl ?_
  refine zt (pc' := 2) ((zd_82 _).trans rfl) zm_82 rfl rfl ?_
  refine zt_V (pc' := 5) ((zd_82 _).trans rfl) zm_82 rfl zq_6_82 rfl (Nat.le_of_ble_eq_true rfl) zx4_1 zqv_6_82_4 (by decide) rfl (hm) ?_
  refine zt (pc' := 7) ((zd_82 _).trans rfl) zm_82 rfl rfl ?_
  refine zt (pc' := 9) ((zd_82 _).trans rfl) zm_82 rfl rfl ?_
  refine zt (pc' := 12) ((zd_82 _).trans rfl) zm_82 rfl rfl ?_
  refine zt (pc' := 13) ((zd_82 _).trans rfl) zm_82 rfl rfl ?_
  refine zt (pc' := 14) ((zd_82 _).trans rfl) zm_82 rfl rfl ?_
  refine zt (pc' := 15) ((zd_82 _).trans rfl) zm_82 rfl rfl ?_
  refine zt_V (pc' := 18) ((zd_82 _).trans rfl) zm_82 rfl zq_6_45 rfl (Nat.le_of_ble_eq_true rfl) k1 zqv_6_45_4 (by decide) rfl (c_isPair0 k1 k2) ?_
  refine zt_ifT (tgt := 33) (pc' := 21) ((zd_82 _).trans rfl) zm_82 rfl rfl (zeq rfl) ?_
  refine zt (pc' := 35) ((zd_82 _).trans rfl) zm_82 rfl rfl ?_
  exact zte ((zd_82 _).trans rfl) zm_82 rfl
theorem s_many2 {w1 : zW} {za : Nat} (hm : zmet 39 91 [.ref 1, .int 2] zx4 (some (.ref za)) w1) {b : Int32} (hb : b < 0 ∨ 6 < b) : zmet 40 90 [.ref 1, .int 2, .int b] zx4 (some (.int (-2))) w1 := by
  refine ⟨_, rfl, Nat.le_of_ble_eq_true rfl, ?_⟩
  show zev 40 90 0 [some (.ref 1), some (.int 2), some (.int b), none] [] zx4 _ _
  by_cases h1 : b < 0
  · refine zt (pc' := 1) ((zd_90 _).trans rfl) zm_90 rfl rfl ?_
    refine zt (pc' := 2) ((zd_90 _).trans rfl) zm_90 rfl rfl ?_
    refine zt_V (pc' := 5) ((zd_90 _).trans rfl) zm_90 rfl zq_6_82 rfl (Nat.le_of_ble_eq_true rfl) zx4_1 zqv_6_82_4 (by decide) rfl (hm) ?_
    refine zt (pc' := 6) ((zd_90 _).trans rfl) zm_90 rfl rfl ?_
    refine zt (pc' := 7) ((zd_90 _).trans rfl) zm_90 rfl rfl ?_
    refine zt (pc' := 10) ((zd_90 _).trans rfl) zm_90 rfl rfl ?_
    refine zt (pc' := 11) ((zd_90 _).trans rfl) zm_90 rfl rfl ?_
    refine zt_ifT (tgt := 20) (pc' := 14) ((zd_90 _).trans rfl) zm_90 rfl rfl (zlt h1) ?_
    refine zt (pc' := 22) ((zd_90 _).trans rfl) zm_90 rfl rfl ?_
    exact zte ((zd_90 _).trans rfl) zm_90 rfl
  · have h2 : ¬ b < 7 := z7n (hb.resolve_left h1)
    refine zt (pc' := 1) ((zd_90 _).trans rfl) zm_90 rfl rfl ?_
    refine zt (pc' := 2) ((zd_90 _).trans rfl) zm_90 rfl rfl ?_
    refine zt_V (pc' := 5) ((zd_90 _).trans rfl) zm_90 rfl zq_6_82 rfl (Nat.le_of_ble_eq_true rfl) zx4_1 zqv_6_82_4 (by decide) rfl (hm) ?_
    refine zt (pc' := 6) ((zd_90 _).trans rfl) zm_90 rfl rfl ?_
    refine zt (pc' := 7) ((zd_90 _).trans rfl) zm_90 rfl rfl ?_
    refine zt (pc' := 10) ((zd_90 _).trans rfl) zm_90 rfl rfl ?_
    refine zt (pc' := 11) ((zd_90 _).trans rfl) zm_90 rfl rfl ?_
    refine zt_ifF (tgt := 20) (pc' := 14) ((zd_90 _).trans rfl) zm_90 rfl rfl (znlt h1) ?_
    refine zt (pc' := 15) ((zd_90 _).trans rfl) zm_90 rfl rfl ?_
    refine zt (pc' := 17) ((zd_90 _).trans rfl) zm_90 rfl rfl ?_
    refine zt_icF (tgt := 23) (pc' := 20) ((zd_90 _).trans rfl) zm_90 rfl rfl (znlt h2) ?_
    refine zt (pc' := 22) ((zd_90 _).trans rfl) zm_90 rfl rfl ?_
    exact zte ((zd_90 _).trans rfl) zm_90 rfl
theorem s_told2 {w1 : zW} {za : Nat} (hm : zmet 39 91 [.ref 1, .int 2] zx4 (some (.ref za)) w1) {b c : Int32} (hb : b < 0 ∨ 6 < b) : zmet 40 99 [.ref 1, .int 2, .int b, .int c] zx4 (some (.int (-2))) w1 := by
  refine ⟨_, rfl, Nat.le_of_ble_eq_true rfl, ?_⟩
  show zev 40 99 0 [some (.ref 1), some (.int 2), some (.int b), some (.int c), none] [] zx4 _ _
  by_cases h1 : b < 0
  · refine zt (pc' := 1) ((zd_99 _).trans rfl) zm_99 rfl rfl ?_
    refine zt (pc' := 2) ((zd_99 _).trans rfl) zm_99 rfl rfl ?_
    refine zt_V (pc' := 5) ((zd_99 _).trans rfl) zm_99 rfl zq_6_82 rfl (Nat.le_of_ble_eq_true rfl) zx4_1 zqv_6_82_4 (by decide) rfl (hm) ?_
    refine zt (pc' := 7) ((zd_99 _).trans rfl) zm_99 rfl rfl ?_
    refine zt (pc' := 9) ((zd_99 _).trans rfl) zm_99 rfl rfl ?_
    refine zt (pc' := 12) ((zd_99 _).trans rfl) zm_99 rfl rfl ?_
    refine zt (pc' := 13) ((zd_99 _).trans rfl) zm_99 rfl rfl ?_
    refine zt_ifT (tgt := 22) (pc' := 16) ((zd_99 _).trans rfl) zm_99 rfl rfl (zlt h1) ?_
    refine zt (pc' := 24) ((zd_99 _).trans rfl) zm_99 rfl rfl ?_
    exact zte ((zd_99 _).trans rfl) zm_99 rfl
  · have h2 : ¬ b < 7 := z7n (hb.resolve_left h1)
    refine zt (pc' := 1) ((zd_99 _).trans rfl) zm_99 rfl rfl ?_
    refine zt (pc' := 2) ((zd_99 _).trans rfl) zm_99 rfl rfl ?_
    refine zt_V (pc' := 5) ((zd_99 _).trans rfl) zm_99 rfl zq_6_82 rfl (Nat.le_of_ble_eq_true rfl) zx4_1 zqv_6_82_4 (by decide) rfl (hm) ?_
    refine zt (pc' := 7) ((zd_99 _).trans rfl) zm_99 rfl rfl ?_
    refine zt (pc' := 9) ((zd_99 _).trans rfl) zm_99 rfl rfl ?_
    refine zt (pc' := 12) ((zd_99 _).trans rfl) zm_99 rfl rfl ?_
    refine zt (pc' := 13) ((zd_99 _).trans rfl) zm_99 rfl rfl ?_
    refine zt_ifF (tgt := 22) (pc' := 16) ((zd_99 _).trans rfl) zm_99 rfl rfl (znlt h1) ?_
    refine zt (pc' := 17) ((zd_99 _).trans rfl) zm_99 rfl rfl ?_
    refine zt (pc' := 19) ((zd_99 _).trans rfl) zm_99 rfl rfl ?_
    refine zt_icF (tgt := 25) (pc' := 22) ((zd_99 _).trans rfl) zm_99 rfl rfl (znlt h2) ?_
    refine zt (pc' := 24) ((zd_99 _).trans rfl) zm_99 rfl rfl ?_
    exact zte ((zd_99 _).trans rfl) zm_99 rfl
theorem p_rigid (v : Int32) : zP 94 158 [.int v] := by
  obtain ⟨p, ms, hM⟩ := zx4_9
  by_cases h : v < 0 ∨ 2 < v
  · exact zP_same (s_rigid zx4_1 h) (t_rigid hM h)
  · rcases z012 h with e | e | e <;> subst e
    · exact zc_rigid_0
    · exact zc_rigid_1
    · exact zc_rigid_2
theorem p_lacks (v : Int32) : zP 87 142 [.int v] := by
  obtain ⟨p, ms, hM⟩ := zx4_9
  by_cases h : v < 0 ∨ 2 < v
  · exact zP_same (s_lacks zx4_1 h) (t_lacks hM h)
  · rcases z012 h with e | e | e <;> subst e
    · exact zc_lacks_0
    · exact zc_lacks_1
    · exact zc_lacks_2
theorem p_spare (v : Int32) : zP 96 160 [.int v] := by
  obtain ⟨p, ms, hM⟩ := zx4_9
  by_cases h : v < 0 ∨ 2 < v
  · exact zP_same (s_spare zx4_1 h) (t_spare hM h)
  · rcases z012 h with e | e | e <;> subst e
    · exact zc_spare_0
    · exact zc_spare_1
    · exact zc_spare_2
theorem p_rank (v b : Int32) : zP 93 154 [.int v, .int b] := by
  obtain ⟨p, ms, hM⟩ := zx4_9
  by_cases h : v < 0 ∨ 2 < v
  · exact zP_same (s_rank zx4_1 h) (t_rank hM h)
  · rcases z012 h with e | e | e <;> subst e
    · by_cases hb : b < 0 ∨ 1 <<< ((0 : Int32) &&& 31) - 1 < b
      · obtain ⟨p, ms, hM⟩ := zy0_9
        exact zP_to (s_rank0 zy0_m zy0_1 zy0_2 hb) (t_rank0 hM hb) zy0_r
      · have e := z0s hb
        subst e
        exact zc_rank_0_0
    · by_cases hb : b < 0 ∨ 1 <<< ((0 : Int32) &&& 31) - 1 < b
      · obtain ⟨p, ms, hM⟩ := zy1_9
        exact zP_to (s_rank1 zy1_m zy1_1 zy1_2 hb) (t_rank1 hM hb) zy1_r
      · have e := z0s hb
        subst e
        exact zc_rank_1_0
    · by_cases hb : b < 0 ∨ 1 <<< ((0 : Int32) &&& 31) - 1 < b
      · obtain ⟨p, ms, hM⟩ := zy2_9
        exact zP_to (s_rank2 zy2_m zy2_1 zy2_2 hb) (t_rank2 hM hb) zy2_r
      · have e := z0s hb
        subst e
        exact zc_rank_2_0
theorem p_closure (v b : Int32) : zP 76 111 [.int v, .int b] := by
  obtain ⟨p, ms, hM⟩ := zx4_9
  by_cases h : v < 0 ∨ 2 < v
  · exact zP_same (s_closure zx4_1 h) (t_closure hM h)
  · rcases z012 h with e | e | e <;> subst e
    · by_cases hb : b < 0 ∨ 1 <<< ((0 : Int32) &&& 31) - 1 < b
      · obtain ⟨p, ms, hM⟩ := zy0_9
        exact zP_to (s_closure0 zy0_m zy0_1 zy0_2 hb) (t_closure0 hM hb) zy0_r
      · have e := z0s hb
        subst e
        exact zc_closure_0_0
    · by_cases hb : b < 0 ∨ 1 <<< ((0 : Int32) &&& 31) - 1 < b
      · obtain ⟨p, ms, hM⟩ := zy1_9
        exact zP_to (s_closure1 zy1_m zy1_1 zy1_2 hb) (t_closure1 hM hb) zy1_r
      · have e := z0s hb
        subst e
        exact zc_closure_1_0
    · by_cases hb : b < 0 ∨ 1 <<< ((0 : Int32) &&& 31) - 1 < b
      · obtain ⟨p, ms, hM⟩ := zy2_9
        exact zP_to (s_closure2 zy2_m zy2_1 zy2_2 hb) (t_closure2 hM hb) zy2_r
      · have e := z0s hb
        subst e
        exact zc_closure_2_0
theorem p_implied (v a b c : Int32) : zP 82 124 [.int v, .int a, .int b, .int c] := by
  obtain ⟨p, ms, hM⟩ := zx4_9
  by_cases h : v < 0 ∨ 2 < v
  · exact zP_same (s_implied zx4_1 h) (t_implied hM h)
  · rcases z012 h with e | e | e <;> subst e
    · obtain ⟨p, ms, hM⟩ := zy0_9
      exact zP_to (s_implied0 zy0_m zy0_1 zy0_2) (t_implied0 hM) zy0_r
    · obtain ⟨p, ms, hM⟩ := zy1_9
      exact zP_to (s_implied1 zy1_m zy1_1 zy1_2) (t_implied1 hM) zy1_r
    · obtain ⟨p, ms, hM⟩ := zy2_9
      exact zP_to (s_implied2 zy2_m zy2_1 zy2_2) (t_implied2 hM) zy2_r
theorem p_many (v b : Int32) : zP 90 144 [.int v, .int b] := by
  obtain ⟨p, ms, hM⟩ := zx4_9
  by_cases h : v < 0 ∨ 2 < v
  · exact zP_same (s_many zx4_1 h) (t_many hM h)
  · rcases z012 h with e | e | e <;> subst e
    · by_cases hb : b < 0 ∨ 6 < b
      · obtain ⟨p, ms, hM⟩ := zy0_9
        exact zP_to (s_many0 zy0_m hb) (t_many0 hM hb) zy0_r
      · rcases z06 hb with e | e | e | e | e | e | e <;> subst e
        · exact zc_many_0_0
        · exact zc_many_0_1
        · exact zc_many_0_2
        · exact zc_many_0_3
        · exact zc_many_0_4
        · exact zc_many_0_5
        · exact zc_many_0_6
    · by_cases hb : b < 0 ∨ 6 < b
      · obtain ⟨p, ms, hM⟩ := zy1_9
        exact zP_to (s_many1 zy1_m hb) (t_many1 hM hb) zy1_r
      · rcases z06 hb with e | e | e | e | e | e | e <;> subst e
        · exact zc_many_1_0
        · exact zc_many_1_1
        · exact zc_many_1_2
        · exact zc_many_1_3
        · exact zc_many_1_4
        · exact zc_many_1_5
        · exact zc_many_1_6
    · by_cases hb : b < 0 ∨ 6 < b
      · obtain ⟨p, ms, hM⟩ := zy2_9
        exact zP_to (s_many2 zy2_m hb) (t_many2 hM hb) zy2_r
      · rcases z06 hb with e | e | e | e | e | e | e <;> subst e
        · exact zc_many_2_0
        · exact zc_many_2_1
        · exact zc_many_2_2
        · exact zc_many_2_3
        · exact zc_many_2_4
        · exact zc_many_2_5
        · exact zc_many_2_6
theorem p_begin (v : Int32) : zP 74 106 [.int v] := by
  by_cases h : v < 1 ∨ 7 < v
  · exact zP_same (s_begin h) (t_begin h)
  · rcases z17 h with e | e | e | e | e | e | e <;> subst e
    · exact zc_begin_1
    · exact zc_begin_2
    · exact zc_begin_3
    · exact zc_begin_4
    · exact zc_begin_5
    · exact zc_begin_6
    · exact zc_begin_7
theorem p_sign (a b : Int32) : zP 95 159 [.int a, .int b] := by
  obtain ⟨p, ms, hM⟩ := zx4_9
  exact zP_same (s_sign zx4_1 zx4_2) (t_sign hM)
theorem p_end (a b : Int32) : zP 80 117 [.int a, .int b] := by
  obtain ⟨p, ms, hM⟩ := zx4_9
  exact zP_same (s_end zx4_1 zx4_2) (t_end hM)
theorem p_bar (a b : Int32) : zP 73 104 [.int a, .int b] := by
  obtain ⟨p, ms, hM⟩ := zx4_9
  exact zP_same (s_bar zx4_1 zx4_2) (t_bar hM)
theorem p_unbar : zP 100 168 [] := zc_unbar
theorem p_oneShape : zP 92 147 [] := zc_oneShape
end
section
/-! at, count, holds, stressed (printed by wip/gen/ref3.py) -/
theorem zm_72 : zMt[72]? = some (yX6_at, cX6_at, 3, (some .int), 6, false) := rfl
theorem zd_72 (pc : Nat) : zdec 72 pc = zdl_72.lookup pc := rfl
theorem zm_79 : zMt[79]? = some (yX6_count, cX6_count, 2, (some .int), 6, false) := rfl
theorem zd_79 (pc : Nat) : zdec 79 pc = zdl_79.lookup pc := rfl
theorem zm_81 : zMt[81]? = some (yX6_holds, cX6_holds, 4, (some .int), 6, false) := rfl
theorem zd_81 (pc : Nat) : zdec 81 pc = zdl_81.lookup pc := rfl
theorem zm_98 : zMt[98]? = some (yX6_stressed, cX6_stressed, 6, (some .int), 6, false) := rfl
theorem zd_98 (pc : Nat) : zdec 98 pc = zdl_98.lookup pc := rfl
theorem zm_103 : zMt[103]? = some (yX7_at, cX7_at, 3, (some .int), 7, false) := rfl
theorem zd_103 (pc : Nat) : zdec 103 pc = zdl_103.lookup pc := rfl
theorem zm_115 : zMt[115]? = some (yX7_count, cX7_count, 4, (some .int), 7, false) := rfl
theorem zd_115 (pc : Nat) : zdec 115 pc = zdl_115.lookup pc := rfl
theorem zm_162 : zMt[162]? = some (yX7_stressed, cX7_stressed, 4, (some .int), 7, false) := rfl
theorem zd_162 (pc : Nat) : zdec 162 pc = zdl_162.lookup pc := rfl
theorem zq_7_191 : zcl 7 191 = some (3, 5, 128, 2) := by decide +kernel
theorem zqv_7_191_5 : zclv 7 191 5 = some (3, 5, 128, 2) := by decide +kernel
theorem z10 {v : Int32} (h : v < 0 ∨ (1 : Int32) ≤ v) : v < 0 ∨ (1 : Int32) - 1 < v := by
  refine h.imp id fun h => ?_
  rw [Int32.le_iff_toInt_le] at h
  rw [Int32.lt_iff_toInt_lt]
  have e0 : ((1 : Int32) - 1).toInt = 0 := rfl
  have e1 : (1 : Int32).toInt = 1 := rfl
  omega
theorem z3n {b : Int32} (h : 2 < b) : ¬ b < 3 := by
  rw [Int32.lt_iff_toInt_lt] at h ⊢
  have e6 : (2 : Int32).toInt = 2 := rfl
  have e7 : (3 : Int32).toInt = 3 := rfl
  omega
theorem s_at0 {d : Nat} {w : zW} {v b : Int32} {q1 q2 : Value} (hX : w.1 1 = some (.inr (4, [.ref 2, q1, q2]))) {p0 p1 p2 p3 : Value} {ve : Int32} (hF : w.1 2 = some (.inr (1, [p0, p1, p2, p3, .int 1, .int 0, .int ve]))) (h : v < 0 ∨ (1 : Int32) ≤ v) : zmet (d + 1) 72 [.ref 1, .int v, .int b] w (some (.int (-2))) w := by
  refine ⟨_, rfl, Nat.le_of_ble_eq_true rfl, ?_⟩
  show zev (d + 1) 72 0 [some (.ref 1), some (.int v), some (.int b)] [] w _ _
  refine zt (pc' := 1) ((zd_72 _).trans rfl) zm_72 rfl rfl ?_
  refine zt_get (pc' := 4) ((zd_72 _).trans rfl) zm_72 rfl rfl hX (by decide) rfl ?_
  refine zt (pc' := 5) ((zd_72 _).trans rfl) zm_72 rfl rfl ?_
  refine zt_V (pc' := 8) ((zd_72 _).trans rfl) zm_72 rfl zq_6_34 rfl (Nat.le_of_ble_eq_true rfl) hF zqv_6_34_1 (by decide) rfl (c_hasJoint0 hF h) ?_
  refine zt_ifT (tgt := 20) (pc' := 11) ((zd_72 _).trans rfl) zm_72 rfl rfl (zeq rfl) ?_
  refine zt (pc' := 22) ((zd_72 _).trans rfl) zm_72 rfl rfl ?_
  exact zte ((zd_72 _).trans rfl) zm_72 rfl
theorem s_at1 {d : Nat} {w : zW} {v b : Int32} {q1 q2 : Value} (hX : w.1 1 = some (.inr (4, [.ref 2, q1, q2]))) {p0 p1 p2 p3 : Value} {ve : Int32} (hF : w.1 2 = some (.inr (1, [p0, p1, p2, p3, .int 1, .int 0, .int ve]))) (h1 : ¬ v < 0) (h2 : ¬ (1 : Int32) ≤ v) (hb : b < 0 ∨ 2 < b) : zmet (d + 1) 72 [.ref 1, .int v, .int b] w (some (.int (-2))) w := by
  refine ⟨_, rfl, Nat.le_of_ble_eq_true rfl, ?_⟩
  show zev (d + 1) 72 0 [some (.ref 1), some (.int v), some (.int b)] [] w _ _
  by_cases k1 : b < 0
  · refine zt (pc' := 1) ((zd_72 _).trans rfl) zm_72 rfl rfl ?_
    refine zt_get (pc' := 4) ((zd_72 _).trans rfl) zm_72 rfl rfl hX (by decide) rfl ?_
    refine zt (pc' := 5) ((zd_72 _).trans rfl) zm_72 rfl rfl ?_
    refine zt_V (pc' := 8) ((zd_72 _).trans rfl) zm_72 rfl zq_6_34 rfl (Nat.le_of_ble_eq_true rfl) hF zqv_6_34_1 (by decide) rfl (c_hasJoint1 hF h1 h2) ?_
    refine zt_ifF (tgt := 20) (pc' := 11) ((zd_72 _).trans rfl) zm_72 rfl rfl (zneq (by decide)) ?_
    refine zt (pc' := 12) ((zd_72 _).trans rfl) zm_72 rfl rfl ?_
    refine zt_ifT (tgt := 20) (pc' := 15) ((zd_72 _).trans rfl) zm_72 rfl rfl (zlt k1) ?_
    refine zt (pc' := 22) ((zd_72 _).trans rfl) zm_72 rfl rfl ?_
    exact zte ((zd_72 _).trans rfl) zm_72 rfl
  · have k2 : ¬ b < 3 := z3n (hb.resolve_left k1)
    refine zt (pc' := 1) ((zd_72 _).trans rfl) zm_72 rfl rfl ?_
    refine zt_get (pc' := 4) ((zd_72 _).trans rfl) zm_72 rfl rfl hX (by decide) rfl ?_
    refine zt (pc' := 5) ((zd_72 _).trans rfl) zm_72 rfl rfl ?_
    refine zt_V (pc' := 8) ((zd_72 _).trans rfl) zm_72 rfl zq_6_34 rfl (Nat.le_of_ble_eq_true rfl) hF zqv_6_34_1 (by decide) rfl (c_hasJoint1 hF h1 h2) ?_
    refine zt_ifF (tgt := 20) (pc' := 11) ((zd_72 _).trans rfl) zm_72 rfl rfl (zneq (by decide)) ?_
    refine zt (pc' := 12) ((zd_72 _).trans rfl) zm_72 rfl rfl ?_
    refine zt_ifF (tgt := 20) (pc' := 15) ((zd_72 _).trans rfl) zm_72 rfl rfl (znlt k1) ?_
    refine zt (pc' := 16) ((zd_72 _).trans rfl) zm_72 rfl rfl ?_
    refine zt (pc' := 17) ((zd_72 _).trans rfl) zm_72 rfl rfl ?_
    refine zt_icF (tgt := 23) (pc' := 20) ((zd_72 _).trans rfl) zm_72 rfl rfl (znlt k2) ?_
    refine zt (pc' := 22) ((zd_72 _).trans rfl) zm_72 rfl rfl ?_
    exact zte ((zd_72 _).trans rfl) zm_72 rfl
theorem t_at0 {d : Nat} {w : zW} {v b : Int32} {ms : List Value} {pl : Value} (hM : w.1 9 = some (.inr (5, .int 1 :: pl :: .int 0 :: ms))) (h : v < 0 ∨ (1 : Int32) - 1 < v) : zmet (d + 2) 103 [.ref 9, .int v, .int b] w (some (.int (-2))) w := by
  refine ⟨_, rfl, Nat.le_of_ble_eq_true rfl, ?_⟩
  show zev (d + 2) 103 0 [some (.ref 9), some (.int v), some (.int b)] [] w _ _
  refine zt (pc' := 1) ((zd_103 _).trans rfl) zm_103 rfl rfl ?_
  refine zt (pc' := 2) ((zd_103 _).trans rfl) zm_103 rfl rfl ?_
  refine zt_V (pc' := 5) ((zd_103 _).trans rfl) zm_103 rfl zq_7_77 rfl (Nat.le_of_ble_eq_true rfl) hM zqv_7_77_5 (by decide) rfl (c_isJoint0 hM h) ?_
  refine zt_ifT (tgt := 30) (pc' := 8) ((zd_103 _).trans rfl) zm_103 rfl rfl (zeq rfl) ?_
  refine zt (pc' := 32) ((zd_103 _).trans rfl) zm_103 rfl rfl ?_
  exact zte ((zd_103 _).trans rfl) zm_103 rfl
theorem t_at1 {d : Nat} {w : zW} {v b : Int32} {ms : List Value} {pl : Value} (hM : w.1 9 = some (.inr (5, .int 1 :: pl :: .int 0 :: ms))) (h1 : ¬ v < 0) (h2 : ¬ (1 : Int32) - 1 < v) (hb : b < 0 ∨ 2 < b) : zmet (d + 2) 103 [.ref 9, .int v, .int b] w (some (.int (-2))) w := by
  refine ⟨_, rfl, Nat.le_of_ble_eq_true rfl, ?_⟩
  show zev (d + 2) 103 0 [some (.ref 9), some (.int v), some (.int b)] [] w _ _
  refine zt (pc' := 1) ((zd_103 _).trans rfl) zm_103 rfl rfl ?_
  refine zt (pc' := 2) ((zd_103 _).trans rfl) zm_103 rfl rfl ?_
  refine zt_V (pc' := 5) ((zd_103 _).trans rfl) zm_103 rfl zq_7_77 rfl (Nat.le_of_ble_eq_true rfl) hM zqv_7_77_5 (by decide) rfl (c_isJoint1 hM h1 h2) ?_
  refine zt_ifF (tgt := 30) (pc' := 8) ((zd_103 _).trans rfl) zm_103 rfl rfl (zneq (by decide)) ?_
  refine zt (pc' := 9) ((zd_103 _).trans rfl) zm_103 rfl rfl ?_
  refine zt (pc' := 10) ((zd_103 _).trans rfl) zm_103 rfl rfl ?_
  refine zt (pc' := 11) ((zd_103 _).trans rfl) zm_103 rfl rfl ?_
  refine zt_S (pc' := 14) ((zd_103 _).trans rfl) zm_103 rfl zq_7_70 (Nat.le_of_ble_eq_true rfl) (Nat.le_of_ble_eq_true rfl) rfl (c_isIn0 hb) ?_
  refine zt_ifT (tgt := 30) (pc' := 17) ((zd_103 _).trans rfl) zm_103 rfl rfl (zeq rfl) ?_
  refine zt (pc' := 32) ((zd_103 _).trans rfl) zm_103 rfl rfl ?_
  exact zte ((zd_103 _).trans rfl) zm_103 rfl
theorem p_at (v b : Int32) : zP 72 103 [.int v, .int b] := by
  obtain ⟨p, ms, hM⟩ := zx4_9
  by_cases h : v < 0 ∨ (1 : Int32) ≤ v
  · exact zP_same (s_at0 zx4_1 zx4_2 h) (t_at0 hM (z10 h))
  · have h1 : ¬ v < 0 := fun k => h (Or.inl k)
    have h2 : ¬ (1 : Int32) ≤ v := fun k => h (Or.inr k)
    by_cases hb : b < 0 ∨ 2 < b
    · have e := z01 h1 h2
      subst e
      exact zP_same (s_at1 zx4_1 zx4_2 h1 h2 hb) (t_at1 hM (by decide) (by decide) hb)
    · have e := z01 h1 h2
      subst e
      rcases z012 hb with e | e | e <;> subst e
      · exact zc_at_0_0
      · exact zc_at_0_1
      · exact zc_at_0_2
theorem zts_d {x : Int32} {dd lo hi : Int} {offs : Array Int} {pc tgt nL len : Nat} {L : zL} {r : List Value} (h : x.toInt < lo ∨ hi < x.toInt) (ht : zJ pc dd L r = some (tgt, L, r)) : zA nL (.tableswitch dd lo hi offs) len pc L (.int x :: r) = some (tgt, L, r) := by
  simp only [zA, zts, if_pos h]
  exact ht
theorem z03 {v : Int32} (h : ¬ (v < 0 ∨ 3 < v)) : v = 0 ∨ v = 1 ∨ v = 2 ∨ v = 3 := by
  rw [Int32.lt_iff_toInt_lt, Int32.lt_iff_toInt_lt] at h
  have e0 : (0 : Int32).toInt = 0 := rfl
  have e2 : (3 : Int32).toInt = 3 := rfl
  have e : v.toInt = 0 ∨ v.toInt = 1 ∨ v.toInt = 2 ∨ v.toInt = 3 := by omega
  rcases e with e | e | e | e
  · exact Or.inl (Int32.toInt_inj.mp e)
  · exact Or.inr (Or.inl (Int32.toInt_inj.mp e))
  · exact Or.inr (Or.inr (Or.inl (Int32.toInt_inj.mp e)))
  · exact Or.inr (Or.inr (Or.inr (Int32.toInt_inj.mp e)))
theorem s_count {d : Nat} {w : zW} {v : Int32} (h : v.toInt < 0 ∨ 3 < v.toInt) : zmet (d) 79 [.ref 1, .int v] w (some (.int (-2))) w := by
  refine ⟨_, rfl, Nat.le_of_ble_eq_true rfl, ?_⟩
  show zev (d) 79 0 [some (.ref 1), some (.int v)] [] w _ _
  refine zt (pc' := 1) ((zd_79 _).trans rfl) zm_79 rfl rfl ?_
  refine zt (pc' := 66) ((zd_79 _).trans rfl) zm_79 rfl (zts_d h rfl) ?_
  refine zt (pc' := 68) ((zd_79 _).trans rfl) zm_79 rfl rfl ?_
  exact zte ((zd_79 _).trans rfl) zm_79 rfl
theorem t_count {d : Nat} {w : zW} {v : Int32} (h : v < 0 ∨ 3 < v) : zmet (d + 1) 115 [.ref 9, .int v] w (some (.int (-2))) w := by
  refine ⟨_, rfl, Nat.le_of_ble_eq_true rfl, ?_⟩
  show zev (d + 1) 115 0 [some (.ref 9), some (.int v), none, none] [] w _ _
  refine zt (pc' := 1) ((zd_115 _).trans rfl) zm_115 rfl rfl ?_
  refine zt (pc' := 2) ((zd_115 _).trans rfl) zm_115 rfl rfl ?_
  refine zt (pc' := 3) ((zd_115 _).trans rfl) zm_115 rfl rfl ?_
  refine zt_S (pc' := 6) ((zd_115 _).trans rfl) zm_115 rfl zq_7_70 (Nat.le_of_ble_eq_true rfl) (Nat.le_of_ble_eq_true rfl) rfl (c_isIn0 h) ?_
  refine zt_ifF (tgt := 12) (pc' := 9) ((zd_115 _).trans rfl) zm_115 rfl rfl (znne rfl) ?_
  refine zt (pc' := 11) ((zd_115 _).trans rfl) zm_115 rfl rfl ?_
  exact zte ((zd_115 _).trans rfl) zm_115 rfl
theorem p_count (v : Int32) : zP 79 115 [.int v] := by
  by_cases h : v < 0 ∨ 3 < v
  · refine zP_same (s_count (h.imp (fun h => ?_) fun h => ?_)) (t_count h)
    · rw [Int32.lt_iff_toInt_lt] at h
      exact h
    · rw [Int32.lt_iff_toInt_lt] at h
      exact h
  · rcases z03 h with e | e | e | e <;> subst e
    · exact zc_count_0
    · exact zc_count_1
    · exact zc_count_2
    · exact zc_count_3
theorem s_holds {d : Nat} {w : zW} {v : Int32} {q1 q2 : Value} (hX : w.1 1 = some (.inr (4, [.ref 2, q1, q2]))) (h : v < 0 ∨ 2 < v) : zmet (d + 1) 81 [.ref 1, .int v] w (some (.int (-2))) w := by
  refine ⟨_, rfl, Nat.le_of_ble_eq_true rfl, ?_⟩
  show zev (d + 1) 81 0 [some (.ref 1), some (.int v), none, none] [] w _ _
  refine zt (pc' := 1) ((zd_81 _).trans rfl) zm_81 rfl rfl ?_
  refine zt (pc' := 2) ((zd_81 _).trans rfl) zm_81 rfl rfl ?_
  refine zt_V (pc' := 5) ((zd_81 _).trans rfl) zm_81 rfl zq_6_82 rfl (Nat.le_of_ble_eq_true rfl) hX zqv_6_82_4 (by decide) rfl (c_matroidOf0 (z3 h)) ?_
  refine zt (pc' := 6) ((zd_81 _).trans rfl) zm_81 rfl rfl ?_
  refine zt (pc' := 7) ((zd_81 _).trans rfl) zm_81 rfl rfl ?_
  refine zev_H (pc' := 10) zm_81 (zdec_ok zm_81 ((zd_81 _).trans rfl)) rfl rfl rfl ?_
  refine zt_ifT (tgt := 38) (pc' := 13) ((zd_81 _).trans rfl) zm_81 rfl rfl (zeq rfl) ?_
  refine zt (pc' := 40) ((zd_81 _).trans rfl) zm_81 rfl rfl ?_
  exact zte ((zd_81 _).trans rfl) zm_81 rfl
theorem p_holds (v : Int32) : zP 81 123 [.int v] := by
  obtain ⟨p, ms, hM⟩ := zx4_9
  by_cases h : v < 0 ∨ 2 < v
  · exact zP_same (s_holds zx4_1 h) (t_holds hM h)
  · rcases z012 h with e | e | e <;> subst e
    · exact zc_holds_0
    · exact zc_holds_1
    · exact zc_holds_2
theorem s_stressed {d : Nat} {w : zW} {v c b : Int32} {q1 q2 : Value} (hX : w.1 1 = some (.inr (4, [.ref 2, q1, q2]))) {p0 p1 p2 p3 : Value} {ve : Int32} (hF : w.1 2 = some (.inr (1, [p0, p1, p2, p3, .int 1, .int 0, .int ve]))) : zmet (d + 2) 98 [.ref 1, .int v, .int c, .int b] w (some (.int (-2))) w := by
  refine ⟨_, rfl, Nat.le_of_ble_eq_true rfl, ?_⟩
  show zev (d + 2) 98 0 [some (.ref 1), some (.int v), some (.int c), some (.int b), none, none] [] w _ _
  by_cases hc : c < 0 ∨ 1 <<< ((0 : Int32) &&& 31) - 1 < c
  · refine zt (pc' := 1) ((zd_98 _).trans rfl) zm_98 rfl rfl ?_
    refine zt_get (pc' := 4) ((zd_98 _).trans rfl) zm_98 rfl rfl hX (by decide) rfl ?_
    refine zt (pc' := 5) ((zd_98 _).trans rfl) zm_98 rfl rfl ?_
    refine zt_V (pc' := 8) ((zd_98 _).trans rfl) zm_98 rfl zq_6_86 rfl (Nat.le_of_ble_eq_true rfl) hF zqv_6_86_1 (by decide) rfl (c_hasSet0 hF hc) ?_
    refine zt_ifT (tgt := 22) (pc' := 11) ((zd_98 _).trans rfl) zm_98 rfl rfl (zeq rfl) ?_
    refine zt (pc' := 24) ((zd_98 _).trans rfl) zm_98 rfl rfl ?_
    exact zte ((zd_98 _).trans rfl) zm_98 rfl
  · have h1 : ¬ c < 0 := fun k => hc (Or.inl k)
    have h2 : ¬ 1 <<< ((0 : Int32) &&& 31) - 1 < c := fun k => hc (Or.inr k)
    refine zt (pc' := 1) ((zd_98 _).trans rfl) zm_98 rfl rfl ?_
    refine zt_get (pc' := 4) ((zd_98 _).trans rfl) zm_98 rfl rfl hX (by decide) rfl ?_
    refine zt (pc' := 5) ((zd_98 _).trans rfl) zm_98 rfl rfl ?_
    refine zt_V (pc' := 8) ((zd_98 _).trans rfl) zm_98 rfl zq_6_86 rfl (Nat.le_of_ble_eq_true rfl) hF zqv_6_86_1 (by decide) rfl (c_hasSet1 hF h1 h2) ?_
    refine zt_ifF (tgt := 22) (pc' := 11) ((zd_98 _).trans rfl) zm_98 rfl rfl (zneq (by decide)) ?_
    refine zt (pc' := 12) ((zd_98 _).trans rfl) zm_98 rfl rfl ?_
    refine zt_get (pc' := 15) ((zd_98 _).trans rfl) zm_98 rfl rfl hX (by decide) rfl ?_
    refine zt (pc' := 16) ((zd_98 _).trans rfl) zm_98 rfl rfl ?_
    refine zt_V (pc' := 19) ((zd_98 _).trans rfl) zm_98 rfl zq_6_63 rfl (Nat.le_of_ble_eq_true rfl) hF zqv_6_63_1 (by decide) rfl (c_hasBar0 hF zany) ?_
    refine zt_ifF (tgt := 25) (pc' := 22) ((zd_98 _).trans rfl) zm_98 rfl rfl (znne rfl) ?_
    refine zt (pc' := 24) ((zd_98 _).trans rfl) zm_98 rfl rfl ?_
    exact zte ((zd_98 _).trans rfl) zm_98 rfl
theorem t_stressed {d : Nat} {w : zW} {v c b : Int32} {ms : List Value} {pl : Value} (hM : w.1 9 = some (.inr (5, .int 1 :: pl :: .int 0 :: ms))) (h : v < 0 ∨ 2 < v) : zmet (d + 2) 162 [.ref 9, .int v, .int c, .int b] w (some (.int (-2))) w := by
  refine ⟨_, rfl, Nat.le_of_ble_eq_true rfl, ?_⟩
  show zev (d + 2) 162 0 [some (.ref 9), some (.int v), some (.int c), some (.int b)] [] w _ _
  refine zt (pc' := 1) ((zd_162 _).trans rfl) zm_162 rfl rfl ?_
  refine zt (pc' := 2) ((zd_162 _).trans rfl) zm_162 rfl rfl ?_
  refine zt_V (pc' := 5) ((zd_162 _).trans rfl) zm_162 rfl zq_7_158 rfl (Nat.le_of_ble_eq_true rfl) hM zqv_7_158_5 (by decide) rfl (c_isSort0 hM h) ?_
  refine zt_ifT (tgt := 44) (pc' := 8) ((zd_162 _).trans rfl) zm_162 rfl rfl (zeq rfl) ?_
  refine zt (pc' := 46) ((zd_162 _).trans rfl) zm_162 rfl rfl ?_
  exact zte ((zd_162 _).trans rfl) zm_162 rfl
theorem t_stressed2 {d : Nat} {w : zW} {c b : Int32} {ms : List Value} {pl : Value} (hM : w.1 9 = some (.inr (5, .int 1 :: pl :: .int 0 :: ms))) : zmet (d + 2) 162 [.ref 9, .int 2, .int c, .int b] w (some (.int (-2))) w := by
  refine ⟨_, rfl, Nat.le_of_ble_eq_true rfl, ?_⟩
  show zev (d + 2) 162 0 [some (.ref 9), some (.int 2), some (.int c), some (.int b)] [] w _ _
  refine zt (pc' := 1) ((zd_162 _).trans rfl) zm_162 rfl rfl ?_
  refine zt (pc' := 2) ((zd_162 _).trans rfl) zm_162 rfl rfl ?_
  refine zt_V (pc' := 5) ((zd_162 _).trans rfl) zm_162 rfl zq_7_158 rfl (Nat.le_of_ble_eq_true rfl) hM zqv_7_158_5 (by decide) rfl (c_isSort1_2 hM) ?_
  refine zt_ifF (tgt := 44) (pc' := 8) ((zd_162 _).trans rfl) zm_162 rfl rfl (zneq (by decide)) ?_
  refine zt (pc' := 9) ((zd_162 _).trans rfl) zm_162 rfl rfl ?_
  refine zt (pc' := 10) ((zd_162 _).trans rfl) zm_162 rfl rfl ?_
  refine zt_icT (tgt := 44) (pc' := 13) ((zd_162 _).trans rfl) zm_162 rfl rfl (zeq rfl) ?_
  refine zt (pc' := 46) ((zd_162 _).trans rfl) zm_162 rfl rfl ?_
  exact zte ((zd_162 _).trans rfl) zm_162 rfl
theorem zm_128 : zMt[128]? = some (yX7_isCircuit, cX7_isCircuit, 6, (some .boolean), 7, false) := rfl
def zc0 : zW := zKw (zrunT 1000000 39 128 0 (zin 6 [.ref 9, .int 0, .int 0]) [] zx4)
theorem zc0_m : zmet 39 128 [.ref 9, .int 0, .int 0] zx4 (some (.int 0)) zc0 := zmetK zm_128 (by decide) (by decide +kernel)
theorem t_stressed0a {d : Nat} {w : zW} {c b : Int32} {ms : List Value} {pl : Value} (hM : w.1 9 = some (.inr (5, .int 1 :: pl :: .int 0 :: ms))) (h : c < 0 ∨ 1 <<< ((0 : Int32) &&& 31) - 1 < c) : zmet (d + 2) 162 [.ref 9, .int 0, .int c, .int b] w (some (.int (-2))) w := by
  refine ⟨_, rfl, Nat.le_of_ble_eq_true rfl, ?_⟩
  show zev (d + 2) 162 0 [some (.ref 9), some (.int 0), some (.int c), some (.int b)] [] w _ _
  refine zt (pc' := 1) ((zd_162 _).trans rfl) zm_162 rfl rfl ?_
  refine zt (pc' := 2) ((zd_162 _).trans rfl) zm_162 rfl rfl ?_
  refine zt_V (pc' := 5) ((zd_162 _).trans rfl) zm_162 rfl zq_7_158 rfl (Nat.le_of_ble_eq_true rfl) hM zqv_7_158_5 (by decide) rfl (c_isSort1_0 hM) ?_
  refine zt_ifF (tgt := 44) (pc' := 8) ((zd_162 _).trans rfl) zm_162 rfl rfl (zneq (by decide)) ?_
  refine zt (pc' := 9) ((zd_162 _).trans rfl) zm_162 rfl rfl ?_
  refine zt (pc' := 10) ((zd_162 _).trans rfl) zm_162 rfl rfl ?_
  refine zt_icF (tgt := 44) (pc' := 13) ((zd_162 _).trans rfl) zm_162 rfl rfl (zneq (by decide)) ?_
  refine zt (pc' := 14) ((zd_162 _).trans rfl) zm_162 rfl rfl ?_
  refine zt (pc' := 15) ((zd_162 _).trans rfl) zm_162 rfl rfl ?_
  refine zt_V (pc' := 18) ((zd_162 _).trans rfl) zm_162 rfl zq_7_161 rfl (Nat.le_of_ble_eq_true rfl) hM zqv_7_161_5 (by decide) rfl (c_isSet0 hM h) ?_
  refine zt_ifT (tgt := 44) (pc' := 21) ((zd_162 _).trans rfl) zm_162 rfl rfl (zeq rfl) ?_
  refine zt (pc' := 46) ((zd_162 _).trans rfl) zm_162 rfl rfl ?_
  exact zte ((zd_162 _).trans rfl) zm_162 rfl
theorem t_stressed0b {b : Int32} {ms : List Value} {pl : Value} (hM : zx4.1 9 = some (.inr (5, .int 1 :: pl :: .int 0 :: ms))) : zmet (40) 162 [.ref 9, .int 0, .int 0, .int b] zx4 (some (.int (-2))) zc0 := by
  refine ⟨_, rfl, Nat.le_of_ble_eq_true rfl, ?_⟩
  show zev (40) 162 0 [some (.ref 9), some (.int 0), some (.int 0), some (.int b)] [] zx4 _ _
  refine zt (pc' := 1) ((zd_162 _).trans rfl) zm_162 rfl rfl ?_
  refine zt (pc' := 2) ((zd_162 _).trans rfl) zm_162 rfl rfl ?_
  refine zt_V (pc' := 5) ((zd_162 _).trans rfl) zm_162 rfl zq_7_158 rfl (Nat.le_of_ble_eq_true rfl) hM zqv_7_158_5 (by decide) rfl (c_isSort1_0 hM) ?_
  refine zt_ifF (tgt := 44) (pc' := 8) ((zd_162 _).trans rfl) zm_162 rfl rfl (zneq (by decide)) ?_
  refine zt (pc' := 9) ((zd_162 _).trans rfl) zm_162 rfl rfl ?_
  refine zt (pc' := 10) ((zd_162 _).trans rfl) zm_162 rfl rfl ?_
  refine zt_icF (tgt := 44) (pc' := 13) ((zd_162 _).trans rfl) zm_162 rfl rfl (zneq (by decide)) ?_
  refine zt (pc' := 14) ((zd_162 _).trans rfl) zm_162 rfl rfl ?_
  refine zt (pc' := 15) ((zd_162 _).trans rfl) zm_162 rfl rfl ?_
  refine zt_V (pc' := 18) ((zd_162 _).trans rfl) zm_162 rfl zq_7_161 rfl (Nat.le_of_ble_eq_true rfl) hM zqv_7_161_5 (by decide) rfl (c_isSet1 hM (by decide) (by decide)) ?_
  refine zt_ifF (tgt := 44) (pc' := 21) ((zd_162 _).trans rfl) zm_162 rfl rfl (zneq (by decide)) ?_
  refine zt (pc' := 22) ((zd_162 _).trans rfl) zm_162 rfl rfl ?_
  refine zt (pc' := 23) ((zd_162 _).trans rfl) zm_162 rfl rfl ?_
  refine zt (pc' := 24) ((zd_162 _).trans rfl) zm_162 rfl rfl ?_
  refine zt_V (pc' := 27) ((zd_162 _).trans rfl) zm_162 rfl zq_7_191 rfl (Nat.le_of_ble_eq_true rfl) hM zqv_7_191_5 (by decide) rfl (zc0_m) ?_
  refine zt_ifT (tgt := 44) (pc' := 30) ((zd_162 _).trans rfl) zm_162 rfl rfl (zeq rfl) ?_
  refine zt (pc' := 46) ((zd_162 _).trans rfl) zm_162 rfl rfl ?_
  exact zte ((zd_162 _).trans rfl) zm_162 rfl
def zc1 : zW := zKw (zrunT 1000000 39 128 0 (zin 6 [.ref 9, .int 1, .int 0]) [] zx4)
theorem zc1_m : zmet 39 128 [.ref 9, .int 1, .int 0] zx4 (some (.int 0)) zc1 := zmetK zm_128 (by decide) (by decide +kernel)
theorem t_stressed1a {d : Nat} {w : zW} {c b : Int32} {ms : List Value} {pl : Value} (hM : w.1 9 = some (.inr (5, .int 1 :: pl :: .int 0 :: ms))) (h : c < 0 ∨ 1 <<< ((0 : Int32) &&& 31) - 1 < c) : zmet (d + 2) 162 [.ref 9, .int 1, .int c, .int b] w (some (.int (-2))) w := by
  refine ⟨_, rfl, Nat.le_of_ble_eq_true rfl, ?_⟩
  show zev (d + 2) 162 0 [some (.ref 9), some (.int 1), some (.int c), some (.int b)] [] w _ _
  refine zt (pc' := 1) ((zd_162 _).trans rfl) zm_162 rfl rfl ?_
  refine zt (pc' := 2) ((zd_162 _).trans rfl) zm_162 rfl rfl ?_
  refine zt_V (pc' := 5) ((zd_162 _).trans rfl) zm_162 rfl zq_7_158 rfl (Nat.le_of_ble_eq_true rfl) hM zqv_7_158_5 (by decide) rfl (c_isSort1_1 hM) ?_
  refine zt_ifF (tgt := 44) (pc' := 8) ((zd_162 _).trans rfl) zm_162 rfl rfl (zneq (by decide)) ?_
  refine zt (pc' := 9) ((zd_162 _).trans rfl) zm_162 rfl rfl ?_
  refine zt (pc' := 10) ((zd_162 _).trans rfl) zm_162 rfl rfl ?_
  refine zt_icF (tgt := 44) (pc' := 13) ((zd_162 _).trans rfl) zm_162 rfl rfl (zneq (by decide)) ?_
  refine zt (pc' := 14) ((zd_162 _).trans rfl) zm_162 rfl rfl ?_
  refine zt (pc' := 15) ((zd_162 _).trans rfl) zm_162 rfl rfl ?_
  refine zt_V (pc' := 18) ((zd_162 _).trans rfl) zm_162 rfl zq_7_161 rfl (Nat.le_of_ble_eq_true rfl) hM zqv_7_161_5 (by decide) rfl (c_isSet0 hM h) ?_
  refine zt_ifT (tgt := 44) (pc' := 21) ((zd_162 _).trans rfl) zm_162 rfl rfl (zeq rfl) ?_
  refine zt (pc' := 46) ((zd_162 _).trans rfl) zm_162 rfl rfl ?_
  exact zte ((zd_162 _).trans rfl) zm_162 rfl
theorem t_stressed1b {b : Int32} {ms : List Value} {pl : Value} (hM : zx4.1 9 = some (.inr (5, .int 1 :: pl :: .int 0 :: ms))) : zmet (40) 162 [.ref 9, .int 1, .int 0, .int b] zx4 (some (.int (-2))) zc1 := by
  refine ⟨_, rfl, Nat.le_of_ble_eq_true rfl, ?_⟩
  show zev (40) 162 0 [some (.ref 9), some (.int 1), some (.int 0), some (.int b)] [] zx4 _ _
  refine zt (pc' := 1) ((zd_162 _).trans rfl) zm_162 rfl rfl ?_
  refine zt (pc' := 2) ((zd_162 _).trans rfl) zm_162 rfl rfl ?_
  refine zt_V (pc' := 5) ((zd_162 _).trans rfl) zm_162 rfl zq_7_158 rfl (Nat.le_of_ble_eq_true rfl) hM zqv_7_158_5 (by decide) rfl (c_isSort1_1 hM) ?_
  refine zt_ifF (tgt := 44) (pc' := 8) ((zd_162 _).trans rfl) zm_162 rfl rfl (zneq (by decide)) ?_
  refine zt (pc' := 9) ((zd_162 _).trans rfl) zm_162 rfl rfl ?_
  refine zt (pc' := 10) ((zd_162 _).trans rfl) zm_162 rfl rfl ?_
  refine zt_icF (tgt := 44) (pc' := 13) ((zd_162 _).trans rfl) zm_162 rfl rfl (zneq (by decide)) ?_
  refine zt (pc' := 14) ((zd_162 _).trans rfl) zm_162 rfl rfl ?_
  refine zt (pc' := 15) ((zd_162 _).trans rfl) zm_162 rfl rfl ?_
  refine zt_V (pc' := 18) ((zd_162 _).trans rfl) zm_162 rfl zq_7_161 rfl (Nat.le_of_ble_eq_true rfl) hM zqv_7_161_5 (by decide) rfl (c_isSet1 hM (by decide) (by decide)) ?_
  refine zt_ifF (tgt := 44) (pc' := 21) ((zd_162 _).trans rfl) zm_162 rfl rfl (zneq (by decide)) ?_
  refine zt (pc' := 22) ((zd_162 _).trans rfl) zm_162 rfl rfl ?_
  refine zt (pc' := 23) ((zd_162 _).trans rfl) zm_162 rfl rfl ?_
  refine zt (pc' := 24) ((zd_162 _).trans rfl) zm_162 rfl rfl ?_
  refine zt_V (pc' := 27) ((zd_162 _).trans rfl) zm_162 rfl zq_7_191 rfl (Nat.le_of_ble_eq_true rfl) hM zqv_7_191_5 (by decide) rfl (zc1_m) ?_
  refine zt_ifT (tgt := 44) (pc' := 30) ((zd_162 _).trans rfl) zm_162 rfl rfl (zeq rfl) ?_
  refine zt (pc' := 46) ((zd_162 _).trans rfl) zm_162 rfl rfl ?_
  exact zte ((zd_162 _).trans rfl) zm_162 rfl
theorem p_stressed (v c b : Int32) : zP 98 162 [.int v, .int c, .int b] := by
  obtain ⟨p, ms, hM⟩ := zx4_9
  by_cases h : v < 0 ∨ 2 < v
  · exact zP_same (s_stressed zx4_1 zx4_2) (t_stressed hM h)
  · rcases z012 h with e | e | e <;> subst e
    · by_cases hc : c < 0 ∨ 1 <<< ((0 : Int32) &&& 31) - 1 < c
      · exact zP_same (s_stressed zx4_1 zx4_2) (t_stressed0a hM hc)
      · have e := z0s hc
        subst e
        exact ⟨-2, zx4, zc0, s_stressed zx4_1 zx4_2, t_stressed0b hM, zx4_Rm, zRm_ok (by decide +kernel)⟩
    · by_cases hc : c < 0 ∨ 1 <<< ((0 : Int32) &&& 31) - 1 < c
      · exact zP_same (s_stressed zx4_1 zx4_2) (t_stressed1a hM hc)
      · have e := z0s hc
        subst e
        exact ⟨-2, zx4, zc1, s_stressed zx4_1 zx4_2, t_stressed1b hM, zx4_Rm, zRm_ok (by decide +kernel)⟩
    · exact zP_same (s_stressed zx4_1 zx4_2) (t_stressed2 hM)
end
section
/-! the law's own walk (printed by wip/gen/lawwalk.py) -/
theorem zm_169 : zMt[169]? = some (yL_law, cL_law, 4, (some .boolean), 8, false) := rfl
theorem zd_169 (pc : Nat) : zdec 169 pc = zdl_169.lookup pc := rfl
theorem zq_8_9 : zcl 8 9 = some (0, 0, 83, 0) := by decide +kernel
theorem zq_8_12 : zcl 8 12 = some (0, 0, 125, 0) := by decide +kernel
theorem zq_8_13 : zcl 8 13 = some (3, 4, 74, 1) := by decide +kernel
theorem zq_8_17 : zcl 8 17 = some (3, 5, 106, 1) := by decide +kernel
theorem zq_8_18 : zcl 8 18 = some (3, 4, 86, 4) := by decide +kernel
theorem zq_8_22 : zcl 8 22 = some (3, 5, 141, 4) := by decide +kernel
theorem zq_8_23 : zcl 8 23 = some (3, 4, 73, 2) := by decide +kernel
theorem zq_8_27 : zcl 8 27 = some (3, 5, 104, 2) := by decide +kernel
theorem zq_8_28 : zcl 8 28 = some (3, 4, 100, 0) := by decide +kernel
theorem zq_8_32 : zcl 8 32 = some (3, 5, 168, 0) := by decide +kernel
theorem zq_8_33 : zcl 8 33 = some (3, 4, 95, 2) := by decide +kernel
theorem zq_8_36 : zcl 8 36 = some (3, 5, 159, 2) := by decide +kernel
theorem zq_8_37 : zcl 8 37 = some (3, 4, 79, 1) := by decide +kernel
theorem zq_8_40 : zcl 8 40 = some (3, 5, 115, 1) := by decide +kernel
theorem zq_8_41 : zcl 8 41 = some (3, 4, 80, 2) := by decide +kernel
theorem zq_8_44 : zcl 8 44 = some (3, 5, 117, 2) := by decide +kernel
theorem zq_8_45 : zcl 8 45 = some (3, 4, 72, 2) := by decide +kernel
theorem zq_8_48 : zcl 8 48 = some (3, 5, 103, 2) := by decide +kernel
theorem zq_8_49 : zcl 8 49 = some (3, 4, 93, 2) := by decide +kernel
theorem zq_8_52 : zcl 8 52 = some (3, 5, 154, 2) := by decide +kernel
theorem zq_8_53 : zcl 8 53 = some (3, 4, 76, 2) := by decide +kernel
theorem zq_8_56 : zcl 8 56 = some (3, 5, 111, 2) := by decide +kernel
theorem zq_8_57 : zcl 8 57 = some (3, 4, 82, 4) := by decide +kernel
theorem zq_8_60 : zcl 8 60 = some (3, 5, 124, 4) := by decide +kernel
theorem zq_8_61 : zcl 8 61 = some (3, 4, 94, 1) := by decide +kernel
theorem zq_8_64 : zcl 8 64 = some (3, 5, 158, 1) := by decide +kernel
theorem zq_8_65 : zcl 8 65 = some (3, 4, 87, 1) := by decide +kernel
theorem zq_8_68 : zcl 8 68 = some (3, 5, 142, 1) := by decide +kernel
theorem zq_8_69 : zcl 8 69 = some (3, 4, 96, 1) := by decide +kernel
theorem zq_8_72 : zcl 8 72 = some (3, 5, 160, 1) := by decide +kernel
theorem zq_8_73 : zcl 8 73 = some (3, 4, 90, 2) := by decide +kernel
theorem zq_8_76 : zcl 8 76 = some (3, 5, 144, 2) := by decide +kernel
theorem zq_8_77 : zcl 8 77 = some (3, 4, 99, 3) := by decide +kernel
theorem zq_8_81 : zcl 8 81 = some (3, 5, 166, 3) := by decide +kernel
theorem zq_8_82 : zcl 8 82 = some (3, 4, 78, 3) := by decide +kernel
theorem zq_8_85 : zcl 8 85 = some (3, 5, 114, 3) := by decide +kernel
theorem zq_8_86 : zcl 8 86 = some (3, 4, 77, 2) := by decide +kernel
theorem zq_8_89 : zcl 8 89 = some (3, 5, 113, 2) := by decide +kernel
theorem zq_8_90 : zcl 8 90 = some (3, 4, 98, 3) := by decide +kernel
theorem zq_8_93 : zcl 8 93 = some (3, 5, 162, 3) := by decide +kernel
theorem zq_8_94 : zcl 8 94 = some (3, 4, 81, 1) := by decide +kernel
theorem zq_8_97 : zcl 8 97 = some (3, 5, 123, 1) := by decide +kernel
theorem zq_8_98 : zcl 8 98 = some (3, 4, 75, 1) := by decide +kernel
theorem zq_8_101 : zcl 8 101 = some (3, 5, 107, 1) := by decide +kernel
theorem zq_8_102 : zcl 8 102 = some (3, 4, 92, 0) := by decide +kernel
theorem zq_8_105 : zcl 8 105 = some (3, 5, 147, 0) := by decide +kernel
theorem zqv_8_13_4 : zclv 8 13 4 = some (3, 4, 74, 1) := by decide +kernel
theorem zqv_8_17_5 : zclv 8 17 5 = some (3, 5, 106, 1) := by decide +kernel
theorem zqv_8_18_4 : zclv 8 18 4 = some (3, 4, 86, 4) := by decide +kernel
theorem zqv_8_22_5 : zclv 8 22 5 = some (3, 5, 141, 4) := by decide +kernel
theorem zqv_8_23_4 : zclv 8 23 4 = some (3, 4, 73, 2) := by decide +kernel
theorem zqv_8_27_5 : zclv 8 27 5 = some (3, 5, 104, 2) := by decide +kernel
theorem zqv_8_28_4 : zclv 8 28 4 = some (3, 4, 100, 0) := by decide +kernel
theorem zqv_8_32_5 : zclv 8 32 5 = some (3, 5, 168, 0) := by decide +kernel
theorem zqv_8_33_4 : zclv 8 33 4 = some (3, 4, 95, 2) := by decide +kernel
theorem zqv_8_36_5 : zclv 8 36 5 = some (3, 5, 159, 2) := by decide +kernel
theorem zqv_8_37_4 : zclv 8 37 4 = some (3, 4, 79, 1) := by decide +kernel
theorem zqv_8_40_5 : zclv 8 40 5 = some (3, 5, 115, 1) := by decide +kernel
theorem zqv_8_41_4 : zclv 8 41 4 = some (3, 4, 80, 2) := by decide +kernel
theorem zqv_8_44_5 : zclv 8 44 5 = some (3, 5, 117, 2) := by decide +kernel
theorem zqv_8_45_4 : zclv 8 45 4 = some (3, 4, 72, 2) := by decide +kernel
theorem zqv_8_48_5 : zclv 8 48 5 = some (3, 5, 103, 2) := by decide +kernel
theorem zqv_8_49_4 : zclv 8 49 4 = some (3, 4, 93, 2) := by decide +kernel
theorem zqv_8_52_5 : zclv 8 52 5 = some (3, 5, 154, 2) := by decide +kernel
theorem zqv_8_53_4 : zclv 8 53 4 = some (3, 4, 76, 2) := by decide +kernel
theorem zqv_8_56_5 : zclv 8 56 5 = some (3, 5, 111, 2) := by decide +kernel
theorem zqv_8_57_4 : zclv 8 57 4 = some (3, 4, 82, 4) := by decide +kernel
theorem zqv_8_60_5 : zclv 8 60 5 = some (3, 5, 124, 4) := by decide +kernel
theorem zqv_8_61_4 : zclv 8 61 4 = some (3, 4, 94, 1) := by decide +kernel
theorem zqv_8_64_5 : zclv 8 64 5 = some (3, 5, 158, 1) := by decide +kernel
theorem zqv_8_65_4 : zclv 8 65 4 = some (3, 4, 87, 1) := by decide +kernel
theorem zqv_8_68_5 : zclv 8 68 5 = some (3, 5, 142, 1) := by decide +kernel
theorem zqv_8_69_4 : zclv 8 69 4 = some (3, 4, 96, 1) := by decide +kernel
theorem zqv_8_72_5 : zclv 8 72 5 = some (3, 5, 160, 1) := by decide +kernel
theorem zqv_8_73_4 : zclv 8 73 4 = some (3, 4, 90, 2) := by decide +kernel
theorem zqv_8_76_5 : zclv 8 76 5 = some (3, 5, 144, 2) := by decide +kernel
theorem zqv_8_77_4 : zclv 8 77 4 = some (3, 4, 99, 3) := by decide +kernel
theorem zqv_8_81_5 : zclv 8 81 5 = some (3, 5, 166, 3) := by decide +kernel
theorem zqv_8_82_4 : zclv 8 82 4 = some (3, 4, 78, 3) := by decide +kernel
theorem zqv_8_85_5 : zclv 8 85 5 = some (3, 5, 114, 3) := by decide +kernel
theorem zqv_8_86_4 : zclv 8 86 4 = some (3, 4, 77, 2) := by decide +kernel
theorem zqv_8_89_5 : zclv 8 89 5 = some (3, 5, 113, 2) := by decide +kernel
theorem zqv_8_90_4 : zclv 8 90 4 = some (3, 4, 98, 3) := by decide +kernel
theorem zqv_8_93_5 : zclv 8 93 5 = some (3, 5, 162, 3) := by decide +kernel
theorem zqv_8_94_4 : zclv 8 94 4 = some (3, 4, 81, 1) := by decide +kernel
theorem zqv_8_97_5 : zclv 8 97 5 = some (3, 5, 123, 1) := by decide +kernel
theorem zqv_8_98_4 : zclv 8 98 4 = some (3, 4, 75, 1) := by decide +kernel
theorem zqv_8_101_5 : zclv 8 101 5 = some (3, 5, 107, 1) := by decide +kernel
theorem zqv_8_102_4 : zclv 8 102 4 = some (3, 4, 92, 0) := by decide +kernel
theorem zqv_8_105_5 : zclv 8 105 5 = some (3, 5, 147, 0) := by decide +kernel
theorem zdL_18 : zdec 169 18 = some (.iload_n 3, 1) := by decide +kernel
theorem zdL_19 : zdec 169 19 = some (.aload_n 0, 1) := by decide +kernel
theorem zdL_20 : zdec 169 20 = some (.arraylength, 1) := by decide +kernel
theorem zdL_21 : zdec 169 21 = some (.iconst 5, 1) := by decide +kernel
theorem zdL_22 : zdec 169 22 = some (.isub, 1) := by decide +kernel
theorem zdL_23 : zdec 169 23 = some (.if_icmp .gt 805, 3) := by decide +kernel
theorem zdL_26 : zdec 169 26 = some (.aload_n 0, 1) := by decide +kernel
theorem zdL_27 : zdec 169 27 = some (.iload_n 3, 1) := by decide +kernel
theorem zdL_28 : zdec 169 28 = some (.iaload, 1) := by decide +kernel
theorem zdL_29 : zdec 169 29 = some (.bipush 31, 2) := by decide +kernel
theorem zdL_31 : zdec 169 31 = some (.iand, 1) := by decide +kernel
theorem zdL_136 : zdec 169 136 = some (.aload_n 1, 1) := by decide +kernel
theorem zdL_137 : zdec 169 137 = some (.aload_n 0, 1) := by decide +kernel
theorem zdL_138 : zdec 169 138 = some (.iload_n 3, 1) := by decide +kernel
theorem zdL_139 : zdec 169 139 = some (.iconst 1, 1) := by decide +kernel
theorem zdL_140 : zdec 169 140 = some (.iadd, 1) := by decide +kernel
theorem zdL_141 : zdec 169 141 = some (.iaload, 1) := by decide +kernel
theorem zdL_142 : zdec 169 142 = some (.invokevirtual 13, 3) := by decide +kernel
theorem zdL_145 : zdec 169 145 = some (.aload_n 2, 1) := by decide +kernel
theorem zdL_146 : zdec 169 146 = some (.aload_n 0, 1) := by decide +kernel
theorem zdL_147 : zdec 169 147 = some (.iload_n 3, 1) := by decide +kernel
theorem zdL_148 : zdec 169 148 = some (.iconst 1, 1) := by decide +kernel
theorem zdL_149 : zdec 169 149 = some (.iadd, 1) := by decide +kernel
theorem zdL_150 : zdec 169 150 = some (.iaload, 1) := by decide +kernel
theorem zdL_151 : zdec 169 151 = some (.invokevirtual 17, 3) := by decide +kernel
theorem zdL_154 : zdec 169 154 = some (.if_icmp .eq 668, 3) := by decide +kernel
theorem zdL_159 : zdec 169 159 = some (.aload_n 1, 1) := by decide +kernel
theorem zdL_160 : zdec 169 160 = some (.aload_n 0, 1) := by decide +kernel
theorem zdL_161 : zdec 169 161 = some (.iload_n 3, 1) := by decide +kernel
theorem zdL_162 : zdec 169 162 = some (.iconst 1, 1) := by decide +kernel
theorem zdL_163 : zdec 169 163 = some (.iadd, 1) := by decide +kernel
theorem zdL_164 : zdec 169 164 = some (.iaload, 1) := by decide +kernel
theorem zdL_165 : zdec 169 165 = some (.aload_n 0, 1) := by decide +kernel
theorem zdL_166 : zdec 169 166 = some (.iload_n 3, 1) := by decide +kernel
theorem zdL_167 : zdec 169 167 = some (.iconst 2, 1) := by decide +kernel
theorem zdL_168 : zdec 169 168 = some (.iadd, 1) := by decide +kernel
theorem zdL_169 : zdec 169 169 = some (.iaload, 1) := by decide +kernel
theorem zdL_170 : zdec 169 170 = some (.aload_n 0, 1) := by decide +kernel
theorem zdL_171 : zdec 169 171 = some (.iload_n 3, 1) := by decide +kernel
theorem zdL_172 : zdec 169 172 = some (.iconst 3, 1) := by decide +kernel
theorem zdL_173 : zdec 169 173 = some (.iadd, 1) := by decide +kernel
theorem zdL_174 : zdec 169 174 = some (.iaload, 1) := by decide +kernel
theorem zdL_175 : zdec 169 175 = some (.aload_n 0, 1) := by decide +kernel
theorem zdL_176 : zdec 169 176 = some (.iload_n 3, 1) := by decide +kernel
theorem zdL_177 : zdec 169 177 = some (.iconst 4, 1) := by decide +kernel
theorem zdL_178 : zdec 169 178 = some (.iadd, 1) := by decide +kernel
theorem zdL_179 : zdec 169 179 = some (.iaload, 1) := by decide +kernel
theorem zdL_180 : zdec 169 180 = some (.invokevirtual 18, 3) := by decide +kernel
theorem zdL_183 : zdec 169 183 = some (.aload_n 2, 1) := by decide +kernel
theorem zdL_184 : zdec 169 184 = some (.aload_n 0, 1) := by decide +kernel
theorem zdL_185 : zdec 169 185 = some (.iload_n 3, 1) := by decide +kernel
theorem zdL_186 : zdec 169 186 = some (.iconst 1, 1) := by decide +kernel
theorem zdL_187 : zdec 169 187 = some (.iadd, 1) := by decide +kernel
theorem zdL_188 : zdec 169 188 = some (.iaload, 1) := by decide +kernel
theorem zdL_189 : zdec 169 189 = some (.aload_n 0, 1) := by decide +kernel
theorem zdL_190 : zdec 169 190 = some (.iload_n 3, 1) := by decide +kernel
theorem zdL_191 : zdec 169 191 = some (.iconst 2, 1) := by decide +kernel
theorem zdL_192 : zdec 169 192 = some (.iadd, 1) := by decide +kernel
theorem zdL_193 : zdec 169 193 = some (.iaload, 1) := by decide +kernel
theorem zdL_194 : zdec 169 194 = some (.aload_n 0, 1) := by decide +kernel
theorem zdL_195 : zdec 169 195 = some (.iload_n 3, 1) := by decide +kernel
theorem zdL_196 : zdec 169 196 = some (.iconst 3, 1) := by decide +kernel
theorem zdL_197 : zdec 169 197 = some (.iadd, 1) := by decide +kernel
theorem zdL_198 : zdec 169 198 = some (.iaload, 1) := by decide +kernel
theorem zdL_199 : zdec 169 199 = some (.aload_n 0, 1) := by decide +kernel
theorem zdL_200 : zdec 169 200 = some (.iload_n 3, 1) := by decide +kernel
theorem zdL_201 : zdec 169 201 = some (.iconst 4, 1) := by decide +kernel
theorem zdL_202 : zdec 169 202 = some (.iadd, 1) := by decide +kernel
theorem zdL_203 : zdec 169 203 = some (.iaload, 1) := by decide +kernel
theorem zdL_204 : zdec 169 204 = some (.invokevirtual 22, 3) := by decide +kernel
theorem zdL_207 : zdec 169 207 = some (.if_icmp .eq 615, 3) := by decide +kernel
theorem zdL_212 : zdec 169 212 = some (.aload_n 1, 1) := by decide +kernel
theorem zdL_213 : zdec 169 213 = some (.aload_n 0, 1) := by decide +kernel
theorem zdL_214 : zdec 169 214 = some (.iload_n 3, 1) := by decide +kernel
theorem zdL_215 : zdec 169 215 = some (.iconst 1, 1) := by decide +kernel
theorem zdL_216 : zdec 169 216 = some (.iadd, 1) := by decide +kernel
theorem zdL_217 : zdec 169 217 = some (.iaload, 1) := by decide +kernel
theorem zdL_218 : zdec 169 218 = some (.aload_n 0, 1) := by decide +kernel
theorem zdL_219 : zdec 169 219 = some (.iload_n 3, 1) := by decide +kernel
theorem zdL_220 : zdec 169 220 = some (.iconst 2, 1) := by decide +kernel
theorem zdL_221 : zdec 169 221 = some (.iadd, 1) := by decide +kernel
theorem zdL_222 : zdec 169 222 = some (.iaload, 1) := by decide +kernel
theorem zdL_223 : zdec 169 223 = some (.invokevirtual 23, 3) := by decide +kernel
theorem zdL_226 : zdec 169 226 = some (.aload_n 2, 1) := by decide +kernel
theorem zdL_227 : zdec 169 227 = some (.aload_n 0, 1) := by decide +kernel
theorem zdL_228 : zdec 169 228 = some (.iload_n 3, 1) := by decide +kernel
theorem zdL_229 : zdec 169 229 = some (.iconst 1, 1) := by decide +kernel
theorem zdL_230 : zdec 169 230 = some (.iadd, 1) := by decide +kernel
theorem zdL_231 : zdec 169 231 = some (.iaload, 1) := by decide +kernel
theorem zdL_232 : zdec 169 232 = some (.aload_n 0, 1) := by decide +kernel
theorem zdL_233 : zdec 169 233 = some (.iload_n 3, 1) := by decide +kernel
theorem zdL_234 : zdec 169 234 = some (.iconst 2, 1) := by decide +kernel
theorem zdL_235 : zdec 169 235 = some (.iadd, 1) := by decide +kernel
theorem zdL_236 : zdec 169 236 = some (.iaload, 1) := by decide +kernel
theorem zdL_237 : zdec 169 237 = some (.invokevirtual 27, 3) := by decide +kernel
theorem zdL_240 : zdec 169 240 = some (.if_icmp .eq 582, 3) := by decide +kernel
theorem zdL_245 : zdec 169 245 = some (.aload_n 1, 1) := by decide +kernel
theorem zdL_246 : zdec 169 246 = some (.invokevirtual 28, 3) := by decide +kernel
theorem zdL_249 : zdec 169 249 = some (.aload_n 2, 1) := by decide +kernel
theorem zdL_250 : zdec 169 250 = some (.invokevirtual 32, 3) := by decide +kernel
theorem zdL_253 : zdec 169 253 = some (.if_icmp .eq 569, 3) := by decide +kernel
theorem zdL_258 : zdec 169 258 = some (.aload_n 1, 1) := by decide +kernel
theorem zdL_259 : zdec 169 259 = some (.aload_n 0, 1) := by decide +kernel
theorem zdL_260 : zdec 169 260 = some (.iload_n 3, 1) := by decide +kernel
theorem zdL_261 : zdec 169 261 = some (.iconst 1, 1) := by decide +kernel
theorem zdL_262 : zdec 169 262 = some (.iadd, 1) := by decide +kernel
theorem zdL_263 : zdec 169 263 = some (.iaload, 1) := by decide +kernel
theorem zdL_264 : zdec 169 264 = some (.aload_n 0, 1) := by decide +kernel
theorem zdL_265 : zdec 169 265 = some (.iload_n 3, 1) := by decide +kernel
theorem zdL_266 : zdec 169 266 = some (.iconst 2, 1) := by decide +kernel
theorem zdL_267 : zdec 169 267 = some (.iadd, 1) := by decide +kernel
theorem zdL_268 : zdec 169 268 = some (.iaload, 1) := by decide +kernel
theorem zdL_269 : zdec 169 269 = some (.invokevirtual 33, 3) := by decide +kernel
theorem zdL_272 : zdec 169 272 = some (.aload_n 2, 1) := by decide +kernel
theorem zdL_273 : zdec 169 273 = some (.aload_n 0, 1) := by decide +kernel
theorem zdL_274 : zdec 169 274 = some (.iload_n 3, 1) := by decide +kernel
theorem zdL_275 : zdec 169 275 = some (.iconst 1, 1) := by decide +kernel
theorem zdL_276 : zdec 169 276 = some (.iadd, 1) := by decide +kernel
theorem zdL_277 : zdec 169 277 = some (.iaload, 1) := by decide +kernel
theorem zdL_278 : zdec 169 278 = some (.aload_n 0, 1) := by decide +kernel
theorem zdL_279 : zdec 169 279 = some (.iload_n 3, 1) := by decide +kernel
theorem zdL_280 : zdec 169 280 = some (.iconst 2, 1) := by decide +kernel
theorem zdL_281 : zdec 169 281 = some (.iadd, 1) := by decide +kernel
theorem zdL_282 : zdec 169 282 = some (.iaload, 1) := by decide +kernel
theorem zdL_283 : zdec 169 283 = some (.invokevirtual 36, 3) := by decide +kernel
theorem zdL_286 : zdec 169 286 = some (.if_icmp .eq 536, 3) := by decide +kernel
theorem zdL_291 : zdec 169 291 = some (.aload_n 1, 1) := by decide +kernel
theorem zdL_292 : zdec 169 292 = some (.aload_n 0, 1) := by decide +kernel
theorem zdL_293 : zdec 169 293 = some (.iload_n 3, 1) := by decide +kernel
theorem zdL_294 : zdec 169 294 = some (.iconst 1, 1) := by decide +kernel
theorem zdL_295 : zdec 169 295 = some (.iadd, 1) := by decide +kernel
theorem zdL_296 : zdec 169 296 = some (.iaload, 1) := by decide +kernel
theorem zdL_297 : zdec 169 297 = some (.invokevirtual 37, 3) := by decide +kernel
theorem zdL_300 : zdec 169 300 = some (.aload_n 2, 1) := by decide +kernel
theorem zdL_301 : zdec 169 301 = some (.aload_n 0, 1) := by decide +kernel
theorem zdL_302 : zdec 169 302 = some (.iload_n 3, 1) := by decide +kernel
theorem zdL_303 : zdec 169 303 = some (.iconst 1, 1) := by decide +kernel
theorem zdL_304 : zdec 169 304 = some (.iadd, 1) := by decide +kernel
theorem zdL_305 : zdec 169 305 = some (.iaload, 1) := by decide +kernel
theorem zdL_306 : zdec 169 306 = some (.invokevirtual 40, 3) := by decide +kernel
theorem zdL_309 : zdec 169 309 = some (.if_icmp .eq 513, 3) := by decide +kernel
theorem zdL_314 : zdec 169 314 = some (.aload_n 1, 1) := by decide +kernel
theorem zdL_315 : zdec 169 315 = some (.aload_n 0, 1) := by decide +kernel
theorem zdL_316 : zdec 169 316 = some (.iload_n 3, 1) := by decide +kernel
theorem zdL_317 : zdec 169 317 = some (.iconst 1, 1) := by decide +kernel
theorem zdL_318 : zdec 169 318 = some (.iadd, 1) := by decide +kernel
theorem zdL_319 : zdec 169 319 = some (.iaload, 1) := by decide +kernel
theorem zdL_320 : zdec 169 320 = some (.aload_n 0, 1) := by decide +kernel
theorem zdL_321 : zdec 169 321 = some (.iload_n 3, 1) := by decide +kernel
theorem zdL_322 : zdec 169 322 = some (.iconst 2, 1) := by decide +kernel
theorem zdL_323 : zdec 169 323 = some (.iadd, 1) := by decide +kernel
theorem zdL_324 : zdec 169 324 = some (.iaload, 1) := by decide +kernel
theorem zdL_325 : zdec 169 325 = some (.invokevirtual 41, 3) := by decide +kernel
theorem zdL_328 : zdec 169 328 = some (.aload_n 2, 1) := by decide +kernel
theorem zdL_329 : zdec 169 329 = some (.aload_n 0, 1) := by decide +kernel
theorem zdL_330 : zdec 169 330 = some (.iload_n 3, 1) := by decide +kernel
theorem zdL_331 : zdec 169 331 = some (.iconst 1, 1) := by decide +kernel
theorem zdL_332 : zdec 169 332 = some (.iadd, 1) := by decide +kernel
theorem zdL_333 : zdec 169 333 = some (.iaload, 1) := by decide +kernel
theorem zdL_334 : zdec 169 334 = some (.aload_n 0, 1) := by decide +kernel
theorem zdL_335 : zdec 169 335 = some (.iload_n 3, 1) := by decide +kernel
theorem zdL_336 : zdec 169 336 = some (.iconst 2, 1) := by decide +kernel
theorem zdL_337 : zdec 169 337 = some (.iadd, 1) := by decide +kernel
theorem zdL_338 : zdec 169 338 = some (.iaload, 1) := by decide +kernel
theorem zdL_339 : zdec 169 339 = some (.invokevirtual 44, 3) := by decide +kernel
theorem zdL_342 : zdec 169 342 = some (.if_icmp .eq 480, 3) := by decide +kernel
theorem zdL_347 : zdec 169 347 = some (.aload_n 1, 1) := by decide +kernel
theorem zdL_348 : zdec 169 348 = some (.aload_n 0, 1) := by decide +kernel
theorem zdL_349 : zdec 169 349 = some (.iload_n 3, 1) := by decide +kernel
theorem zdL_350 : zdec 169 350 = some (.iconst 1, 1) := by decide +kernel
theorem zdL_351 : zdec 169 351 = some (.iadd, 1) := by decide +kernel
theorem zdL_352 : zdec 169 352 = some (.iaload, 1) := by decide +kernel
theorem zdL_353 : zdec 169 353 = some (.aload_n 0, 1) := by decide +kernel
theorem zdL_354 : zdec 169 354 = some (.iload_n 3, 1) := by decide +kernel
theorem zdL_355 : zdec 169 355 = some (.iconst 2, 1) := by decide +kernel
theorem zdL_356 : zdec 169 356 = some (.iadd, 1) := by decide +kernel
theorem zdL_357 : zdec 169 357 = some (.iaload, 1) := by decide +kernel
theorem zdL_358 : zdec 169 358 = some (.invokevirtual 45, 3) := by decide +kernel
theorem zdL_361 : zdec 169 361 = some (.aload_n 2, 1) := by decide +kernel
theorem zdL_362 : zdec 169 362 = some (.aload_n 0, 1) := by decide +kernel
theorem zdL_363 : zdec 169 363 = some (.iload_n 3, 1) := by decide +kernel
theorem zdL_364 : zdec 169 364 = some (.iconst 1, 1) := by decide +kernel
theorem zdL_365 : zdec 169 365 = some (.iadd, 1) := by decide +kernel
theorem zdL_366 : zdec 169 366 = some (.iaload, 1) := by decide +kernel
theorem zdL_367 : zdec 169 367 = some (.aload_n 0, 1) := by decide +kernel
theorem zdL_368 : zdec 169 368 = some (.iload_n 3, 1) := by decide +kernel
theorem zdL_369 : zdec 169 369 = some (.iconst 2, 1) := by decide +kernel
theorem zdL_370 : zdec 169 370 = some (.iadd, 1) := by decide +kernel
theorem zdL_371 : zdec 169 371 = some (.iaload, 1) := by decide +kernel
theorem zdL_372 : zdec 169 372 = some (.invokevirtual 48, 3) := by decide +kernel
theorem zdL_375 : zdec 169 375 = some (.if_icmp .eq 447, 3) := by decide +kernel
theorem zdL_380 : zdec 169 380 = some (.aload_n 1, 1) := by decide +kernel
theorem zdL_381 : zdec 169 381 = some (.aload_n 0, 1) := by decide +kernel
theorem zdL_382 : zdec 169 382 = some (.iload_n 3, 1) := by decide +kernel
theorem zdL_383 : zdec 169 383 = some (.iconst 1, 1) := by decide +kernel
theorem zdL_384 : zdec 169 384 = some (.iadd, 1) := by decide +kernel
theorem zdL_385 : zdec 169 385 = some (.iaload, 1) := by decide +kernel
theorem zdL_386 : zdec 169 386 = some (.aload_n 0, 1) := by decide +kernel
theorem zdL_387 : zdec 169 387 = some (.iload_n 3, 1) := by decide +kernel
theorem zdL_388 : zdec 169 388 = some (.iconst 2, 1) := by decide +kernel
theorem zdL_389 : zdec 169 389 = some (.iadd, 1) := by decide +kernel
theorem zdL_390 : zdec 169 390 = some (.iaload, 1) := by decide +kernel
theorem zdL_391 : zdec 169 391 = some (.invokevirtual 49, 3) := by decide +kernel
theorem zdL_394 : zdec 169 394 = some (.aload_n 2, 1) := by decide +kernel
theorem zdL_395 : zdec 169 395 = some (.aload_n 0, 1) := by decide +kernel
theorem zdL_396 : zdec 169 396 = some (.iload_n 3, 1) := by decide +kernel
theorem zdL_397 : zdec 169 397 = some (.iconst 1, 1) := by decide +kernel
theorem zdL_398 : zdec 169 398 = some (.iadd, 1) := by decide +kernel
theorem zdL_399 : zdec 169 399 = some (.iaload, 1) := by decide +kernel
theorem zdL_400 : zdec 169 400 = some (.aload_n 0, 1) := by decide +kernel
theorem zdL_401 : zdec 169 401 = some (.iload_n 3, 1) := by decide +kernel
theorem zdL_402 : zdec 169 402 = some (.iconst 2, 1) := by decide +kernel
theorem zdL_403 : zdec 169 403 = some (.iadd, 1) := by decide +kernel
theorem zdL_404 : zdec 169 404 = some (.iaload, 1) := by decide +kernel
theorem zdL_405 : zdec 169 405 = some (.invokevirtual 52, 3) := by decide +kernel
theorem zdL_408 : zdec 169 408 = some (.if_icmp .eq 414, 3) := by decide +kernel
theorem zdL_413 : zdec 169 413 = some (.aload_n 1, 1) := by decide +kernel
theorem zdL_414 : zdec 169 414 = some (.aload_n 0, 1) := by decide +kernel
theorem zdL_415 : zdec 169 415 = some (.iload_n 3, 1) := by decide +kernel
theorem zdL_416 : zdec 169 416 = some (.iconst 1, 1) := by decide +kernel
theorem zdL_417 : zdec 169 417 = some (.iadd, 1) := by decide +kernel
theorem zdL_418 : zdec 169 418 = some (.iaload, 1) := by decide +kernel
theorem zdL_419 : zdec 169 419 = some (.aload_n 0, 1) := by decide +kernel
theorem zdL_420 : zdec 169 420 = some (.iload_n 3, 1) := by decide +kernel
theorem zdL_421 : zdec 169 421 = some (.iconst 2, 1) := by decide +kernel
theorem zdL_422 : zdec 169 422 = some (.iadd, 1) := by decide +kernel
theorem zdL_423 : zdec 169 423 = some (.iaload, 1) := by decide +kernel
theorem zdL_424 : zdec 169 424 = some (.invokevirtual 53, 3) := by decide +kernel
theorem zdL_427 : zdec 169 427 = some (.aload_n 2, 1) := by decide +kernel
theorem zdL_428 : zdec 169 428 = some (.aload_n 0, 1) := by decide +kernel
theorem zdL_429 : zdec 169 429 = some (.iload_n 3, 1) := by decide +kernel
theorem zdL_430 : zdec 169 430 = some (.iconst 1, 1) := by decide +kernel
theorem zdL_431 : zdec 169 431 = some (.iadd, 1) := by decide +kernel
theorem zdL_432 : zdec 169 432 = some (.iaload, 1) := by decide +kernel
theorem zdL_433 : zdec 169 433 = some (.aload_n 0, 1) := by decide +kernel
theorem zdL_434 : zdec 169 434 = some (.iload_n 3, 1) := by decide +kernel
theorem zdL_435 : zdec 169 435 = some (.iconst 2, 1) := by decide +kernel
theorem zdL_436 : zdec 169 436 = some (.iadd, 1) := by decide +kernel
theorem zdL_437 : zdec 169 437 = some (.iaload, 1) := by decide +kernel
theorem zdL_438 : zdec 169 438 = some (.invokevirtual 56, 3) := by decide +kernel
theorem zdL_441 : zdec 169 441 = some (.if_icmp .eq 381, 3) := by decide +kernel
theorem zdL_446 : zdec 169 446 = some (.aload_n 1, 1) := by decide +kernel
theorem zdL_447 : zdec 169 447 = some (.aload_n 0, 1) := by decide +kernel
theorem zdL_448 : zdec 169 448 = some (.iload_n 3, 1) := by decide +kernel
theorem zdL_449 : zdec 169 449 = some (.iconst 1, 1) := by decide +kernel
theorem zdL_450 : zdec 169 450 = some (.iadd, 1) := by decide +kernel
theorem zdL_451 : zdec 169 451 = some (.iaload, 1) := by decide +kernel
theorem zdL_452 : zdec 169 452 = some (.aload_n 0, 1) := by decide +kernel
theorem zdL_453 : zdec 169 453 = some (.iload_n 3, 1) := by decide +kernel
theorem zdL_454 : zdec 169 454 = some (.iconst 2, 1) := by decide +kernel
theorem zdL_455 : zdec 169 455 = some (.iadd, 1) := by decide +kernel
theorem zdL_456 : zdec 169 456 = some (.iaload, 1) := by decide +kernel
theorem zdL_457 : zdec 169 457 = some (.aload_n 0, 1) := by decide +kernel
theorem zdL_458 : zdec 169 458 = some (.iload_n 3, 1) := by decide +kernel
theorem zdL_459 : zdec 169 459 = some (.iconst 3, 1) := by decide +kernel
theorem zdL_460 : zdec 169 460 = some (.iadd, 1) := by decide +kernel
theorem zdL_461 : zdec 169 461 = some (.iaload, 1) := by decide +kernel
theorem zdL_462 : zdec 169 462 = some (.aload_n 0, 1) := by decide +kernel
theorem zdL_463 : zdec 169 463 = some (.iload_n 3, 1) := by decide +kernel
theorem zdL_464 : zdec 169 464 = some (.iconst 4, 1) := by decide +kernel
theorem zdL_465 : zdec 169 465 = some (.iadd, 1) := by decide +kernel
theorem zdL_466 : zdec 169 466 = some (.iaload, 1) := by decide +kernel
theorem zdL_467 : zdec 169 467 = some (.invokevirtual 57, 3) := by decide +kernel
theorem zdL_470 : zdec 169 470 = some (.aload_n 2, 1) := by decide +kernel
theorem zdL_471 : zdec 169 471 = some (.aload_n 0, 1) := by decide +kernel
theorem zdL_472 : zdec 169 472 = some (.iload_n 3, 1) := by decide +kernel
theorem zdL_473 : zdec 169 473 = some (.iconst 1, 1) := by decide +kernel
theorem zdL_474 : zdec 169 474 = some (.iadd, 1) := by decide +kernel
theorem zdL_475 : zdec 169 475 = some (.iaload, 1) := by decide +kernel
theorem zdL_476 : zdec 169 476 = some (.aload_n 0, 1) := by decide +kernel
theorem zdL_477 : zdec 169 477 = some (.iload_n 3, 1) := by decide +kernel
theorem zdL_478 : zdec 169 478 = some (.iconst 2, 1) := by decide +kernel
theorem zdL_479 : zdec 169 479 = some (.iadd, 1) := by decide +kernel
theorem zdL_480 : zdec 169 480 = some (.iaload, 1) := by decide +kernel
theorem zdL_481 : zdec 169 481 = some (.aload_n 0, 1) := by decide +kernel
theorem zdL_482 : zdec 169 482 = some (.iload_n 3, 1) := by decide +kernel
theorem zdL_483 : zdec 169 483 = some (.iconst 3, 1) := by decide +kernel
theorem zdL_484 : zdec 169 484 = some (.iadd, 1) := by decide +kernel
theorem zdL_485 : zdec 169 485 = some (.iaload, 1) := by decide +kernel
theorem zdL_486 : zdec 169 486 = some (.aload_n 0, 1) := by decide +kernel
theorem zdL_487 : zdec 169 487 = some (.iload_n 3, 1) := by decide +kernel
theorem zdL_488 : zdec 169 488 = some (.iconst 4, 1) := by decide +kernel
theorem zdL_489 : zdec 169 489 = some (.iadd, 1) := by decide +kernel
theorem zdL_490 : zdec 169 490 = some (.iaload, 1) := by decide +kernel
theorem zdL_491 : zdec 169 491 = some (.invokevirtual 60, 3) := by decide +kernel
theorem zdL_494 : zdec 169 494 = some (.if_icmp .eq 328, 3) := by decide +kernel
theorem zdL_499 : zdec 169 499 = some (.aload_n 1, 1) := by decide +kernel
theorem zdL_500 : zdec 169 500 = some (.aload_n 0, 1) := by decide +kernel
theorem zdL_501 : zdec 169 501 = some (.iload_n 3, 1) := by decide +kernel
theorem zdL_502 : zdec 169 502 = some (.iconst 1, 1) := by decide +kernel
theorem zdL_503 : zdec 169 503 = some (.iadd, 1) := by decide +kernel
theorem zdL_504 : zdec 169 504 = some (.iaload, 1) := by decide +kernel
theorem zdL_505 : zdec 169 505 = some (.invokevirtual 61, 3) := by decide +kernel
theorem zdL_508 : zdec 169 508 = some (.aload_n 2, 1) := by decide +kernel
theorem zdL_509 : zdec 169 509 = some (.aload_n 0, 1) := by decide +kernel
theorem zdL_510 : zdec 169 510 = some (.iload_n 3, 1) := by decide +kernel
theorem zdL_511 : zdec 169 511 = some (.iconst 1, 1) := by decide +kernel
theorem zdL_512 : zdec 169 512 = some (.iadd, 1) := by decide +kernel
theorem zdL_513 : zdec 169 513 = some (.iaload, 1) := by decide +kernel
theorem zdL_514 : zdec 169 514 = some (.invokevirtual 64, 3) := by decide +kernel
theorem zdL_517 : zdec 169 517 = some (.if_icmp .eq 305, 3) := by decide +kernel
theorem zdL_522 : zdec 169 522 = some (.aload_n 1, 1) := by decide +kernel
theorem zdL_523 : zdec 169 523 = some (.aload_n 0, 1) := by decide +kernel
theorem zdL_524 : zdec 169 524 = some (.iload_n 3, 1) := by decide +kernel
theorem zdL_525 : zdec 169 525 = some (.iconst 1, 1) := by decide +kernel
theorem zdL_526 : zdec 169 526 = some (.iadd, 1) := by decide +kernel
theorem zdL_527 : zdec 169 527 = some (.iaload, 1) := by decide +kernel
theorem zdL_528 : zdec 169 528 = some (.invokevirtual 65, 3) := by decide +kernel
theorem zdL_531 : zdec 169 531 = some (.aload_n 2, 1) := by decide +kernel
theorem zdL_532 : zdec 169 532 = some (.aload_n 0, 1) := by decide +kernel
theorem zdL_533 : zdec 169 533 = some (.iload_n 3, 1) := by decide +kernel
theorem zdL_534 : zdec 169 534 = some (.iconst 1, 1) := by decide +kernel
theorem zdL_535 : zdec 169 535 = some (.iadd, 1) := by decide +kernel
theorem zdL_536 : zdec 169 536 = some (.iaload, 1) := by decide +kernel
theorem zdL_537 : zdec 169 537 = some (.invokevirtual 68, 3) := by decide +kernel
theorem zdL_540 : zdec 169 540 = some (.if_icmp .eq 282, 3) := by decide +kernel
theorem zdL_545 : zdec 169 545 = some (.aload_n 1, 1) := by decide +kernel
theorem zdL_546 : zdec 169 546 = some (.aload_n 0, 1) := by decide +kernel
theorem zdL_547 : zdec 169 547 = some (.iload_n 3, 1) := by decide +kernel
theorem zdL_548 : zdec 169 548 = some (.iconst 1, 1) := by decide +kernel
theorem zdL_549 : zdec 169 549 = some (.iadd, 1) := by decide +kernel
theorem zdL_550 : zdec 169 550 = some (.iaload, 1) := by decide +kernel
theorem zdL_551 : zdec 169 551 = some (.invokevirtual 69, 3) := by decide +kernel
theorem zdL_554 : zdec 169 554 = some (.aload_n 2, 1) := by decide +kernel
theorem zdL_555 : zdec 169 555 = some (.aload_n 0, 1) := by decide +kernel
theorem zdL_556 : zdec 169 556 = some (.iload_n 3, 1) := by decide +kernel
theorem zdL_557 : zdec 169 557 = some (.iconst 1, 1) := by decide +kernel
theorem zdL_558 : zdec 169 558 = some (.iadd, 1) := by decide +kernel
theorem zdL_559 : zdec 169 559 = some (.iaload, 1) := by decide +kernel
theorem zdL_560 : zdec 169 560 = some (.invokevirtual 72, 3) := by decide +kernel
theorem zdL_563 : zdec 169 563 = some (.if_icmp .eq 259, 3) := by decide +kernel
theorem zdL_568 : zdec 169 568 = some (.aload_n 1, 1) := by decide +kernel
theorem zdL_569 : zdec 169 569 = some (.aload_n 0, 1) := by decide +kernel
theorem zdL_570 : zdec 169 570 = some (.iload_n 3, 1) := by decide +kernel
theorem zdL_571 : zdec 169 571 = some (.iconst 1, 1) := by decide +kernel
theorem zdL_572 : zdec 169 572 = some (.iadd, 1) := by decide +kernel
theorem zdL_573 : zdec 169 573 = some (.iaload, 1) := by decide +kernel
theorem zdL_574 : zdec 169 574 = some (.aload_n 0, 1) := by decide +kernel
theorem zdL_575 : zdec 169 575 = some (.iload_n 3, 1) := by decide +kernel
theorem zdL_576 : zdec 169 576 = some (.iconst 2, 1) := by decide +kernel
theorem zdL_577 : zdec 169 577 = some (.iadd, 1) := by decide +kernel
theorem zdL_578 : zdec 169 578 = some (.iaload, 1) := by decide +kernel
theorem zdL_579 : zdec 169 579 = some (.invokevirtual 73, 3) := by decide +kernel
theorem zdL_582 : zdec 169 582 = some (.aload_n 2, 1) := by decide +kernel
theorem zdL_583 : zdec 169 583 = some (.aload_n 0, 1) := by decide +kernel
theorem zdL_584 : zdec 169 584 = some (.iload_n 3, 1) := by decide +kernel
theorem zdL_585 : zdec 169 585 = some (.iconst 1, 1) := by decide +kernel
theorem zdL_586 : zdec 169 586 = some (.iadd, 1) := by decide +kernel
theorem zdL_587 : zdec 169 587 = some (.iaload, 1) := by decide +kernel
theorem zdL_588 : zdec 169 588 = some (.aload_n 0, 1) := by decide +kernel
theorem zdL_589 : zdec 169 589 = some (.iload_n 3, 1) := by decide +kernel
theorem zdL_590 : zdec 169 590 = some (.iconst 2, 1) := by decide +kernel
theorem zdL_591 : zdec 169 591 = some (.iadd, 1) := by decide +kernel
theorem zdL_592 : zdec 169 592 = some (.iaload, 1) := by decide +kernel
theorem zdL_593 : zdec 169 593 = some (.invokevirtual 76, 3) := by decide +kernel
theorem zdL_596 : zdec 169 596 = some (.if_icmp .eq 226, 3) := by decide +kernel
theorem zdL_601 : zdec 169 601 = some (.aload_n 1, 1) := by decide +kernel
theorem zdL_602 : zdec 169 602 = some (.aload_n 0, 1) := by decide +kernel
theorem zdL_603 : zdec 169 603 = some (.iload_n 3, 1) := by decide +kernel
theorem zdL_604 : zdec 169 604 = some (.iconst 1, 1) := by decide +kernel
theorem zdL_605 : zdec 169 605 = some (.iadd, 1) := by decide +kernel
theorem zdL_606 : zdec 169 606 = some (.iaload, 1) := by decide +kernel
theorem zdL_607 : zdec 169 607 = some (.aload_n 0, 1) := by decide +kernel
theorem zdL_608 : zdec 169 608 = some (.iload_n 3, 1) := by decide +kernel
theorem zdL_609 : zdec 169 609 = some (.iconst 2, 1) := by decide +kernel
theorem zdL_610 : zdec 169 610 = some (.iadd, 1) := by decide +kernel
theorem zdL_611 : zdec 169 611 = some (.iaload, 1) := by decide +kernel
theorem zdL_612 : zdec 169 612 = some (.aload_n 0, 1) := by decide +kernel
theorem zdL_613 : zdec 169 613 = some (.iload_n 3, 1) := by decide +kernel
theorem zdL_614 : zdec 169 614 = some (.iconst 3, 1) := by decide +kernel
theorem zdL_615 : zdec 169 615 = some (.iadd, 1) := by decide +kernel
theorem zdL_616 : zdec 169 616 = some (.iaload, 1) := by decide +kernel
theorem zdL_617 : zdec 169 617 = some (.invokevirtual 77, 3) := by decide +kernel
theorem zdL_620 : zdec 169 620 = some (.aload_n 2, 1) := by decide +kernel
theorem zdL_621 : zdec 169 621 = some (.aload_n 0, 1) := by decide +kernel
theorem zdL_622 : zdec 169 622 = some (.iload_n 3, 1) := by decide +kernel
theorem zdL_623 : zdec 169 623 = some (.iconst 1, 1) := by decide +kernel
theorem zdL_624 : zdec 169 624 = some (.iadd, 1) := by decide +kernel
theorem zdL_625 : zdec 169 625 = some (.iaload, 1) := by decide +kernel
theorem zdL_626 : zdec 169 626 = some (.aload_n 0, 1) := by decide +kernel
theorem zdL_627 : zdec 169 627 = some (.iload_n 3, 1) := by decide +kernel
theorem zdL_628 : zdec 169 628 = some (.iconst 2, 1) := by decide +kernel
theorem zdL_629 : zdec 169 629 = some (.iadd, 1) := by decide +kernel
theorem zdL_630 : zdec 169 630 = some (.iaload, 1) := by decide +kernel
theorem zdL_631 : zdec 169 631 = some (.aload_n 0, 1) := by decide +kernel
theorem zdL_632 : zdec 169 632 = some (.iload_n 3, 1) := by decide +kernel
theorem zdL_633 : zdec 169 633 = some (.iconst 3, 1) := by decide +kernel
theorem zdL_634 : zdec 169 634 = some (.iadd, 1) := by decide +kernel
theorem zdL_635 : zdec 169 635 = some (.iaload, 1) := by decide +kernel
theorem zdL_636 : zdec 169 636 = some (.invokevirtual 81, 3) := by decide +kernel
theorem zdL_639 : zdec 169 639 = some (.if_icmp .eq 183, 3) := by decide +kernel
theorem zdL_644 : zdec 169 644 = some (.aload_n 1, 1) := by decide +kernel
theorem zdL_645 : zdec 169 645 = some (.aload_n 0, 1) := by decide +kernel
theorem zdL_646 : zdec 169 646 = some (.iload_n 3, 1) := by decide +kernel
theorem zdL_647 : zdec 169 647 = some (.iconst 1, 1) := by decide +kernel
theorem zdL_648 : zdec 169 648 = some (.iadd, 1) := by decide +kernel
theorem zdL_649 : zdec 169 649 = some (.iaload, 1) := by decide +kernel
theorem zdL_650 : zdec 169 650 = some (.aload_n 0, 1) := by decide +kernel
theorem zdL_651 : zdec 169 651 = some (.iload_n 3, 1) := by decide +kernel
theorem zdL_652 : zdec 169 652 = some (.iconst 2, 1) := by decide +kernel
theorem zdL_653 : zdec 169 653 = some (.iadd, 1) := by decide +kernel
theorem zdL_654 : zdec 169 654 = some (.iaload, 1) := by decide +kernel
theorem zdL_655 : zdec 169 655 = some (.aload_n 0, 1) := by decide +kernel
theorem zdL_656 : zdec 169 656 = some (.iload_n 3, 1) := by decide +kernel
theorem zdL_657 : zdec 169 657 = some (.iconst 3, 1) := by decide +kernel
theorem zdL_658 : zdec 169 658 = some (.iadd, 1) := by decide +kernel
theorem zdL_659 : zdec 169 659 = some (.iaload, 1) := by decide +kernel
theorem zdL_660 : zdec 169 660 = some (.invokevirtual 82, 3) := by decide +kernel
theorem zdL_663 : zdec 169 663 = some (.aload_n 2, 1) := by decide +kernel
theorem zdL_664 : zdec 169 664 = some (.aload_n 0, 1) := by decide +kernel
theorem zdL_665 : zdec 169 665 = some (.iload_n 3, 1) := by decide +kernel
theorem zdL_666 : zdec 169 666 = some (.iconst 1, 1) := by decide +kernel
theorem zdL_667 : zdec 169 667 = some (.iadd, 1) := by decide +kernel
theorem zdL_668 : zdec 169 668 = some (.iaload, 1) := by decide +kernel
theorem zdL_669 : zdec 169 669 = some (.aload_n 0, 1) := by decide +kernel
theorem zdL_670 : zdec 169 670 = some (.iload_n 3, 1) := by decide +kernel
theorem zdL_671 : zdec 169 671 = some (.iconst 2, 1) := by decide +kernel
theorem zdL_672 : zdec 169 672 = some (.iadd, 1) := by decide +kernel
theorem zdL_673 : zdec 169 673 = some (.iaload, 1) := by decide +kernel
theorem zdL_674 : zdec 169 674 = some (.aload_n 0, 1) := by decide +kernel
theorem zdL_675 : zdec 169 675 = some (.iload_n 3, 1) := by decide +kernel
theorem zdL_676 : zdec 169 676 = some (.iconst 3, 1) := by decide +kernel
theorem zdL_677 : zdec 169 677 = some (.iadd, 1) := by decide +kernel
theorem zdL_678 : zdec 169 678 = some (.iaload, 1) := by decide +kernel
theorem zdL_679 : zdec 169 679 = some (.invokevirtual 85, 3) := by decide +kernel
theorem zdL_682 : zdec 169 682 = some (.if_icmp .eq 140, 3) := by decide +kernel
theorem zdL_687 : zdec 169 687 = some (.aload_n 1, 1) := by decide +kernel
theorem zdL_688 : zdec 169 688 = some (.aload_n 0, 1) := by decide +kernel
theorem zdL_689 : zdec 169 689 = some (.iload_n 3, 1) := by decide +kernel
theorem zdL_690 : zdec 169 690 = some (.iconst 1, 1) := by decide +kernel
theorem zdL_691 : zdec 169 691 = some (.iadd, 1) := by decide +kernel
theorem zdL_692 : zdec 169 692 = some (.iaload, 1) := by decide +kernel
theorem zdL_693 : zdec 169 693 = some (.aload_n 0, 1) := by decide +kernel
theorem zdL_694 : zdec 169 694 = some (.iload_n 3, 1) := by decide +kernel
theorem zdL_695 : zdec 169 695 = some (.iconst 2, 1) := by decide +kernel
theorem zdL_696 : zdec 169 696 = some (.iadd, 1) := by decide +kernel
theorem zdL_697 : zdec 169 697 = some (.iaload, 1) := by decide +kernel
theorem zdL_698 : zdec 169 698 = some (.invokevirtual 86, 3) := by decide +kernel
theorem zdL_701 : zdec 169 701 = some (.aload_n 2, 1) := by decide +kernel
theorem zdL_702 : zdec 169 702 = some (.aload_n 0, 1) := by decide +kernel
theorem zdL_703 : zdec 169 703 = some (.iload_n 3, 1) := by decide +kernel
theorem zdL_704 : zdec 169 704 = some (.iconst 1, 1) := by decide +kernel
theorem zdL_705 : zdec 169 705 = some (.iadd, 1) := by decide +kernel
theorem zdL_706 : zdec 169 706 = some (.iaload, 1) := by decide +kernel
theorem zdL_707 : zdec 169 707 = some (.aload_n 0, 1) := by decide +kernel
theorem zdL_708 : zdec 169 708 = some (.iload_n 3, 1) := by decide +kernel
theorem zdL_709 : zdec 169 709 = some (.iconst 2, 1) := by decide +kernel
theorem zdL_710 : zdec 169 710 = some (.iadd, 1) := by decide +kernel
theorem zdL_711 : zdec 169 711 = some (.iaload, 1) := by decide +kernel
theorem zdL_712 : zdec 169 712 = some (.invokevirtual 89, 3) := by decide +kernel
theorem zdL_715 : zdec 169 715 = some (.if_icmp .eq 107, 3) := by decide +kernel
theorem zdL_720 : zdec 169 720 = some (.aload_n 1, 1) := by decide +kernel
theorem zdL_721 : zdec 169 721 = some (.aload_n 0, 1) := by decide +kernel
theorem zdL_722 : zdec 169 722 = some (.iload_n 3, 1) := by decide +kernel
theorem zdL_723 : zdec 169 723 = some (.iconst 1, 1) := by decide +kernel
theorem zdL_724 : zdec 169 724 = some (.iadd, 1) := by decide +kernel
theorem zdL_725 : zdec 169 725 = some (.iaload, 1) := by decide +kernel
theorem zdL_726 : zdec 169 726 = some (.aload_n 0, 1) := by decide +kernel
theorem zdL_727 : zdec 169 727 = some (.iload_n 3, 1) := by decide +kernel
theorem zdL_728 : zdec 169 728 = some (.iconst 2, 1) := by decide +kernel
theorem zdL_729 : zdec 169 729 = some (.iadd, 1) := by decide +kernel
theorem zdL_730 : zdec 169 730 = some (.iaload, 1) := by decide +kernel
theorem zdL_731 : zdec 169 731 = some (.aload_n 0, 1) := by decide +kernel
theorem zdL_732 : zdec 169 732 = some (.iload_n 3, 1) := by decide +kernel
theorem zdL_733 : zdec 169 733 = some (.iconst 3, 1) := by decide +kernel
theorem zdL_734 : zdec 169 734 = some (.iadd, 1) := by decide +kernel
theorem zdL_735 : zdec 169 735 = some (.iaload, 1) := by decide +kernel
theorem zdL_736 : zdec 169 736 = some (.invokevirtual 90, 3) := by decide +kernel
theorem zdL_739 : zdec 169 739 = some (.aload_n 2, 1) := by decide +kernel
theorem zdL_740 : zdec 169 740 = some (.aload_n 0, 1) := by decide +kernel
theorem zdL_741 : zdec 169 741 = some (.iload_n 3, 1) := by decide +kernel
theorem zdL_742 : zdec 169 742 = some (.iconst 1, 1) := by decide +kernel
theorem zdL_743 : zdec 169 743 = some (.iadd, 1) := by decide +kernel
theorem zdL_744 : zdec 169 744 = some (.iaload, 1) := by decide +kernel
theorem zdL_745 : zdec 169 745 = some (.aload_n 0, 1) := by decide +kernel
theorem zdL_746 : zdec 169 746 = some (.iload_n 3, 1) := by decide +kernel
theorem zdL_747 : zdec 169 747 = some (.iconst 2, 1) := by decide +kernel
theorem zdL_748 : zdec 169 748 = some (.iadd, 1) := by decide +kernel
theorem zdL_749 : zdec 169 749 = some (.iaload, 1) := by decide +kernel
theorem zdL_750 : zdec 169 750 = some (.aload_n 0, 1) := by decide +kernel
theorem zdL_751 : zdec 169 751 = some (.iload_n 3, 1) := by decide +kernel
theorem zdL_752 : zdec 169 752 = some (.iconst 3, 1) := by decide +kernel
theorem zdL_753 : zdec 169 753 = some (.iadd, 1) := by decide +kernel
theorem zdL_754 : zdec 169 754 = some (.iaload, 1) := by decide +kernel
theorem zdL_755 : zdec 169 755 = some (.invokevirtual 93, 3) := by decide +kernel
theorem zdL_758 : zdec 169 758 = some (.if_icmp .eq 64, 3) := by decide +kernel
theorem zdL_763 : zdec 169 763 = some (.aload_n 1, 1) := by decide +kernel
theorem zdL_764 : zdec 169 764 = some (.aload_n 0, 1) := by decide +kernel
theorem zdL_765 : zdec 169 765 = some (.iload_n 3, 1) := by decide +kernel
theorem zdL_766 : zdec 169 766 = some (.iconst 1, 1) := by decide +kernel
theorem zdL_767 : zdec 169 767 = some (.iadd, 1) := by decide +kernel
theorem zdL_768 : zdec 169 768 = some (.iaload, 1) := by decide +kernel
theorem zdL_769 : zdec 169 769 = some (.invokevirtual 94, 3) := by decide +kernel
theorem zdL_772 : zdec 169 772 = some (.aload_n 2, 1) := by decide +kernel
theorem zdL_773 : zdec 169 773 = some (.aload_n 0, 1) := by decide +kernel
theorem zdL_774 : zdec 169 774 = some (.iload_n 3, 1) := by decide +kernel
theorem zdL_775 : zdec 169 775 = some (.iconst 1, 1) := by decide +kernel
theorem zdL_776 : zdec 169 776 = some (.iadd, 1) := by decide +kernel
theorem zdL_777 : zdec 169 777 = some (.iaload, 1) := by decide +kernel
theorem zdL_778 : zdec 169 778 = some (.invokevirtual 97, 3) := by decide +kernel
theorem zdL_781 : zdec 169 781 = some (.if_icmp .eq 41, 3) := by decide +kernel
theorem zdL_786 : zdec 169 786 = some (.aload_n 1, 1) := by decide +kernel
theorem zdL_787 : zdec 169 787 = some (.aload_n 0, 1) := by decide +kernel
theorem zdL_788 : zdec 169 788 = some (.iload_n 3, 1) := by decide +kernel
theorem zdL_789 : zdec 169 789 = some (.iconst 1, 1) := by decide +kernel
theorem zdL_790 : zdec 169 790 = some (.iadd, 1) := by decide +kernel
theorem zdL_791 : zdec 169 791 = some (.iaload, 1) := by decide +kernel
theorem zdL_792 : zdec 169 792 = some (.invokevirtual 98, 3) := by decide +kernel
theorem zdL_795 : zdec 169 795 = some (.aload_n 2, 1) := by decide +kernel
theorem zdL_796 : zdec 169 796 = some (.aload_n 0, 1) := by decide +kernel
theorem zdL_797 : zdec 169 797 = some (.iload_n 3, 1) := by decide +kernel
theorem zdL_798 : zdec 169 798 = some (.iconst 1, 1) := by decide +kernel
theorem zdL_799 : zdec 169 799 = some (.iadd, 1) := by decide +kernel
theorem zdL_800 : zdec 169 800 = some (.iaload, 1) := by decide +kernel
theorem zdL_801 : zdec 169 801 = some (.invokevirtual 101, 3) := by decide +kernel
theorem zdL_804 : zdec 169 804 = some (.if_icmp .eq 18, 3) := by decide +kernel
theorem zdL_809 : zdec 169 809 = some (.aload_n 1, 1) := by decide +kernel
theorem zdL_810 : zdec 169 810 = some (.invokevirtual 102, 3) := by decide +kernel
theorem zdL_813 : zdec 169 813 = some (.aload_n 2, 1) := by decide +kernel
theorem zdL_814 : zdec 169 814 = some (.invokevirtual 105, 3) := by decide +kernel
theorem zdL_817 : zdec 169 817 = some (.if_icmp .eq 5, 3) := by decide +kernel
theorem zdL_822 : zdec 169 822 = some (.iinc 3 5, 3) := by decide +kernel
theorem zdL_825 : zdec 169 825 = some (.goto (-807), 3) := by decide +kernel
theorem zdL_828 : zdec 169 828 = some (.iconst 1, 1) := by decide +kernel
theorem zdL_829 : zdec 169 829 = some (.ireturn, 1) := by decide +kernel
def zB (L : Nat) (xs : Nat → Int32) : Nat → Option va_E := fun a => if a = 0 then some (.inl (9, L, .inl xs)) else none
theorem z1w_ov (L : Nat) (xs : Nat → Int32) : z1w L xs = zov (zB L xs) zx0 := rfl
theorem zt_newB {d mi pc mL o : Nat} {L : zL} {st : List Value} {w w' : zW} {r : Option Value} {y : MethodName} {b : ByteArray} {ret : Option FieldType} {ini : Bool} {pc' : Nat} {idx ci a : Nat} {B : Nat → Option va_E} (hd : zdec mi pc = some (.new idx, 3)) (hM : zMt[mi]? = some (y, b, mL, ret, o, ini)) (hp : pc + 3 = pc') (hc : zck o idx = some ci) (hn : w.2.1 = a) (k : zev d mi pc' L (.ref a :: st) (zov B (va_up w.1 a (some (.inr (ci, zdf ci))), a + 1, w.2.2 + (ztab ci).2.2)) r w') : zev d mi pc L st (zov B w) r w' := by
  subst hn
  refine zt_new hd hM hp hc ?_
  have e := zov_up (B := B) (h := w.1) (a := w.2.1) (e := .inr (ci, zdf ci)) (q := (w.2.1 + 1, w.2.2 + (ztab ci).2.2))
  rw [← e] at k
  exact k
theorem zl_in {L : Nat} {xs : Nat → Int32} {r : Option Value} {w' : zW} (k : zev 41 169 18 [some (.ref 0), some (.ref 1), some (.ref 9), some (.int 0)] [] (zov (zB L xs) zx4) r w') : zev 41 169 0 (zin 4 [.ref 0]) [] (z1w L xs) r w' := by
  show zev 41 169 0 [some (.ref 0), none, none, none] [] (zov (zB L xs) zx0) _ _
  refine zt_newB (a := 1) (ci := 4) (pc' := 3) ((zd_169 _).trans rfl) zm_169 rfl (by decide +kernel) rfl ?_
  show zev 41 169 3 [some (.ref 0), none, none, none] [.ref 1] (zov (zB L xs) zx1) _ _
  refine zt (pc' := 4) ((zd_169 _).trans rfl) zm_169 rfl rfl ?_
  refine zt_P (len := 0) (pc' := 7) ((zd_169 _).trans rfl) zm_169 rfl zq_8_9 (by decide) rfl (Nat.le_of_ble_eq_true rfl) rfl (zmet_ov (by decide) zx_R) ?_
  refine zt (pc' := 8) ((zd_169 _).trans rfl) zm_169 rfl rfl ?_
  refine zt_newB (a := 9) (ci := 5) (pc' := 11) ((zd_169 _).trans rfl) zm_169 rfl (by decide +kernel) zx2_n ?_
  show zev 41 169 11 [some (.ref 0), some (.ref 1), none, none] [.ref 9] (zov (zB L xs) zx3) _ _
  refine zt (pc' := 12) ((zd_169 _).trans rfl) zm_169 rfl rfl ?_
  refine zt_P (len := 0) (pc' := 15) ((zd_169 _).trans rfl) zm_169 rfl zq_8_12 (by decide) rfl (Nat.le_of_ble_eq_true rfl) rfl (zmet_ov (by decide) zx_M) ?_
  refine zt (pc' := 16) ((zd_169 _).trans rfl) zm_169 rfl rfl ?_
  refine zt (pc' := 17) ((zd_169 _).trans rfl) zm_169 rfl rfl ?_
  refine zt (pc' := 18) ((zd_169 _).trans rfl) zm_169 rfl rfl ?_
  exact k
theorem zB_0 {L : Nat} {xs : Nat → Int32} {w : zW} (h : w.1 0 = none) : (zov (zB L xs) w).1 0 = some (.inl (9, L, .inl xs)) := by
  simp [zov, h, zB]
theorem zB_c {L : Nat} {xs : Nat → Int32} {w : zW} {a : Nat} {e : va_E} (h : w.1 a = some e) : (zov (zB L xs) w).1 a = some e := by
  simp [zov, h]
theorem zev_ialdX {d mi pc mL o a N : Nat} {L : zL} {w w' : zW} {r : Option Value} {y : MethodName} {b : ByteArray} {ret : Option FieldType} {ini : Bool} {f : Nat → Int32} {x : Int32} {rr : List Value} {pc' : Nat} (hd : zdec mi pc = some (.iaload, 1)) (hM : zMt[mi]? = some (y, b, mL, ret, o, ini)) (hp : pc + 1 = pc') (ha : w.1 a = some (.inl (9, N, .inl f))) (hi : zbd x N = true) (kk : zev d mi pc' L (.int (f x.toNatClampNeg) :: rr) w r w') : zev d mi pc L (.int x :: .ref a :: rr) w r w' := by
  subst hp
  exact zev_H hM (zdec_ok hM hd) rfl (by simp only [zA]) (by simp only [zH, zHia, ha, hi]; simp) kk
theorem zev_alenX {d mi pc mL o a N : Nat} {L : zL} {w w' : zW} {r : Option Value} {y : MethodName} {b : ByteArray} {ret : Option FieldType} {ini : Bool} {f : Nat → Int32} {rr : List Value} {pc' : Nat} (hd : zdec mi pc = some (.arraylength, 1)) (hM : zMt[mi]? = some (y, b, mL, ret, o, ini)) (hp : pc + 1 = pc') (ha : w.1 a = some (.inl (9, N, .inl f))) (kk : zev d mi pc' L (.int (Int32.ofNat N) :: rr) w r w') : zev d mi pc L (.ref a :: rr) w r w' := by
  subst hp
  exact zev_H hM (zdec_ok hM hd) rfl (by simp only [zA]) (by simp only [zH, zHal, ha]; simp) kk
theorem zl_out {d L : Nat} {xs : Nat → Int32} {i : Int32} {w : zW} (h0 : w.1 0 = some (.inl (9, L, .inl xs))) (h : Int32.ofNat L - 5 < i) : zev d 169 18 [some (.ref 0), some (.ref 1), some (.ref 9), some (.int i)] [] w (some (.int 1)) w := by
  refine zt (pc' := 19) zdL_18 zm_169 rfl rfl ?_
  refine zt (pc' := 20) zdL_19 zm_169 rfl rfl ?_
  refine zev_alenX (pc' := 21) zdL_20 zm_169 rfl h0 ?_
  refine zt (pc' := 22) zdL_21 zm_169 rfl rfl ?_
  refine zt (pc' := 23) zdL_22 zm_169 rfl rfl ?_
  refine zt_icT (tgt := 828) (pc' := 26) zdL_23 zm_169 rfl rfl (zgt h) ?_
  refine zt (pc' := 829) zdL_828 zm_169 rfl rfl ?_
  exact zte zdL_829 zm_169 rfl
theorem zl_go {d : Nat} {xs : Nat → Int32} {w w' : zW} {r : Option Value} (h0 : w.1 0 = some (.inl (9, 5, .inl xs))) (k : zev d 169 32 [some (.ref 0), some (.ref 1), some (.ref 9), some (.int 0)] [.int (xs 0 &&& 31)] w r w') : zev d 169 18 [some (.ref 0), some (.ref 1), some (.ref 9), some (.int 0)] [] w r w' := by
  refine zt (pc' := 19) zdL_18 zm_169 rfl rfl ?_
  refine zt (pc' := 20) zdL_19 zm_169 rfl rfl ?_
  refine zev_alenX (pc' := 21) zdL_20 zm_169 rfl h0 ?_
  refine zt (pc' := 22) zdL_21 zm_169 rfl rfl ?_
  refine zt (pc' := 23) zdL_22 zm_169 rfl rfl ?_
  refine zt_icF (tgt := 828) (pc' := 26) zdL_23 zm_169 rfl rfl (zngt (by decide)) ?_
  refine zt (pc' := 27) zdL_26 zm_169 rfl rfl ?_
  refine zt (pc' := 28) zdL_27 zm_169 rfl rfl ?_
  refine zev_ialdX (pc' := 29) zdL_28 zm_169 rfl h0 (by decide) ?_
  refine zt (pc' := 31) zdL_29 zm_169 rfl rfl ?_
  refine zt (pc' := 32) zdL_31 zm_169 rfl rfl ?_
  exact k
theorem zl_begin {xs : Nat → Int32} (h : zP 74 106 [.int (xs 1)]) : ∃ w', zev 41 169 136 [some (.ref 0), some (.ref 1), some (.ref 9), some (.int 0)] [] (zov (zB 5 xs) zx4) (some (.int 1)) w' ∧ w'.2.1 ≤ 600000 ∧ w'.2.2 ≤ 7302250 := by
  obtain ⟨v, w1, w2, h1, h2, q1, q2⟩ := h
  obtain ⟨fs, h9⟩ := q1.2.2.2.2
  refine ⟨zov (zB 5 xs) w2, ?_, q2.2.1, q2.2.2.1⟩
  refine zt (pc' := 137) zdL_136 zm_169 rfl rfl ?_
  refine zt (pc' := 138) zdL_137 zm_169 rfl rfl ?_
  refine zt (pc' := 139) zdL_138 zm_169 rfl rfl ?_
  refine zt (pc' := 140) zdL_139 zm_169 rfl rfl ?_
  refine zt (pc' := 141) zdL_140 zm_169 rfl rfl ?_
  refine zev_ialdX (pc' := 142) zdL_141 zm_169 rfl (zB_0 zx4_Rm.2.2.2.1) (by decide) ?_
  refine zt_V (pc' := 145) zdL_142 zm_169 rfl zq_8_13 rfl (Nat.le_of_ble_eq_true rfl) (zB_c zx4_1) zqv_8_13_4 (by decide) rfl (zmet_ov zx4_n h1) ?_
  refine zt (pc' := 146) zdL_145 zm_169 rfl rfl ?_
  refine zt (pc' := 147) zdL_146 zm_169 rfl rfl ?_
  refine zt (pc' := 148) zdL_147 zm_169 rfl rfl ?_
  refine zt (pc' := 149) zdL_148 zm_169 rfl rfl ?_
  refine zt (pc' := 150) zdL_149 zm_169 rfl rfl ?_
  refine zev_ialdX (pc' := 151) zdL_150 zm_169 rfl (zB_0 q1.2.2.2.1) (by decide) ?_
  refine zt_V (pc' := 154) zdL_151 zm_169 rfl zq_8_17 rfl (Nat.le_of_ble_eq_true rfl) (zB_c h9) zqv_8_17_5 (by decide) rfl (zmet_ov q1.1 h2) ?_
  refine zt_icT (tgt := 822) (pc' := 157) zdL_154 zm_169 rfl rfl (zeq rfl) ?_
  refine zt (pc' := 825) zdL_822 zm_169 rfl rfl ?_
  refine zt (pc' := 18) zdL_825 zm_169 rfl rfl ?_
  exact zl_out (zB_0 q2.2.2.2.1) (by decide)
theorem zl_joint {xs : Nat → Int32} (h : zP 86 141 [.int (xs 1), .int (xs 2), .int (xs 3), .int (xs 4)]) : ∃ w', zev 41 169 159 [some (.ref 0), some (.ref 1), some (.ref 9), some (.int 0)] [] (zov (zB 5 xs) zx4) (some (.int 1)) w' ∧ w'.2.1 ≤ 600000 ∧ w'.2.2 ≤ 7302250 := by
  obtain ⟨v, w1, w2, h1, h2, q1, q2⟩ := h
  obtain ⟨fs, h9⟩ := q1.2.2.2.2
  refine ⟨zov (zB 5 xs) w2, ?_, q2.2.1, q2.2.2.1⟩
  refine zt (pc' := 160) zdL_159 zm_169 rfl rfl ?_
  refine zt (pc' := 161) zdL_160 zm_169 rfl rfl ?_
  refine zt (pc' := 162) zdL_161 zm_169 rfl rfl ?_
  refine zt (pc' := 163) zdL_162 zm_169 rfl rfl ?_
  refine zt (pc' := 164) zdL_163 zm_169 rfl rfl ?_
  refine zev_ialdX (pc' := 165) zdL_164 zm_169 rfl (zB_0 zx4_Rm.2.2.2.1) (by decide) ?_
  refine zt (pc' := 166) zdL_165 zm_169 rfl rfl ?_
  refine zt (pc' := 167) zdL_166 zm_169 rfl rfl ?_
  refine zt (pc' := 168) zdL_167 zm_169 rfl rfl ?_
  refine zt (pc' := 169) zdL_168 zm_169 rfl rfl ?_
  refine zev_ialdX (pc' := 170) zdL_169 zm_169 rfl (zB_0 zx4_Rm.2.2.2.1) (by decide) ?_
  refine zt (pc' := 171) zdL_170 zm_169 rfl rfl ?_
  refine zt (pc' := 172) zdL_171 zm_169 rfl rfl ?_
  refine zt (pc' := 173) zdL_172 zm_169 rfl rfl ?_
  refine zt (pc' := 174) zdL_173 zm_169 rfl rfl ?_
  refine zev_ialdX (pc' := 175) zdL_174 zm_169 rfl (zB_0 zx4_Rm.2.2.2.1) (by decide) ?_
  refine zt (pc' := 176) zdL_175 zm_169 rfl rfl ?_
  refine zt (pc' := 177) zdL_176 zm_169 rfl rfl ?_
  refine zt (pc' := 178) zdL_177 zm_169 rfl rfl ?_
  refine zt (pc' := 179) zdL_178 zm_169 rfl rfl ?_
  refine zev_ialdX (pc' := 180) zdL_179 zm_169 rfl (zB_0 zx4_Rm.2.2.2.1) (by decide) ?_
  refine zt_V (pc' := 183) zdL_180 zm_169 rfl zq_8_18 rfl (Nat.le_of_ble_eq_true rfl) (zB_c zx4_1) zqv_8_18_4 (by decide) rfl (zmet_ov zx4_n h1) ?_
  refine zt (pc' := 184) zdL_183 zm_169 rfl rfl ?_
  refine zt (pc' := 185) zdL_184 zm_169 rfl rfl ?_
  refine zt (pc' := 186) zdL_185 zm_169 rfl rfl ?_
  refine zt (pc' := 187) zdL_186 zm_169 rfl rfl ?_
  refine zt (pc' := 188) zdL_187 zm_169 rfl rfl ?_
  refine zev_ialdX (pc' := 189) zdL_188 zm_169 rfl (zB_0 q1.2.2.2.1) (by decide) ?_
  refine zt (pc' := 190) zdL_189 zm_169 rfl rfl ?_
  refine zt (pc' := 191) zdL_190 zm_169 rfl rfl ?_
  refine zt (pc' := 192) zdL_191 zm_169 rfl rfl ?_
  refine zt (pc' := 193) zdL_192 zm_169 rfl rfl ?_
  refine zev_ialdX (pc' := 194) zdL_193 zm_169 rfl (zB_0 q1.2.2.2.1) (by decide) ?_
  refine zt (pc' := 195) zdL_194 zm_169 rfl rfl ?_
  refine zt (pc' := 196) zdL_195 zm_169 rfl rfl ?_
  refine zt (pc' := 197) zdL_196 zm_169 rfl rfl ?_
  refine zt (pc' := 198) zdL_197 zm_169 rfl rfl ?_
  refine zev_ialdX (pc' := 199) zdL_198 zm_169 rfl (zB_0 q1.2.2.2.1) (by decide) ?_
  refine zt (pc' := 200) zdL_199 zm_169 rfl rfl ?_
  refine zt (pc' := 201) zdL_200 zm_169 rfl rfl ?_
  refine zt (pc' := 202) zdL_201 zm_169 rfl rfl ?_
  refine zt (pc' := 203) zdL_202 zm_169 rfl rfl ?_
  refine zev_ialdX (pc' := 204) zdL_203 zm_169 rfl (zB_0 q1.2.2.2.1) (by decide) ?_
  refine zt_V (pc' := 207) zdL_204 zm_169 rfl zq_8_22 rfl (Nat.le_of_ble_eq_true rfl) (zB_c h9) zqv_8_22_5 (by decide) rfl (zmet_ov q1.1 h2) ?_
  refine zt_icT (tgt := 822) (pc' := 210) zdL_207 zm_169 rfl rfl (zeq rfl) ?_
  refine zt (pc' := 825) zdL_822 zm_169 rfl rfl ?_
  refine zt (pc' := 18) zdL_825 zm_169 rfl rfl ?_
  exact zl_out (zB_0 q2.2.2.2.1) (by decide)
theorem zl_bar {xs : Nat → Int32} (h : zP 73 104 [.int (xs 1), .int (xs 2)]) : ∃ w', zev 41 169 212 [some (.ref 0), some (.ref 1), some (.ref 9), some (.int 0)] [] (zov (zB 5 xs) zx4) (some (.int 1)) w' ∧ w'.2.1 ≤ 600000 ∧ w'.2.2 ≤ 7302250 := by
  obtain ⟨v, w1, w2, h1, h2, q1, q2⟩ := h
  obtain ⟨fs, h9⟩ := q1.2.2.2.2
  refine ⟨zov (zB 5 xs) w2, ?_, q2.2.1, q2.2.2.1⟩
  refine zt (pc' := 213) zdL_212 zm_169 rfl rfl ?_
  refine zt (pc' := 214) zdL_213 zm_169 rfl rfl ?_
  refine zt (pc' := 215) zdL_214 zm_169 rfl rfl ?_
  refine zt (pc' := 216) zdL_215 zm_169 rfl rfl ?_
  refine zt (pc' := 217) zdL_216 zm_169 rfl rfl ?_
  refine zev_ialdX (pc' := 218) zdL_217 zm_169 rfl (zB_0 zx4_Rm.2.2.2.1) (by decide) ?_
  refine zt (pc' := 219) zdL_218 zm_169 rfl rfl ?_
  refine zt (pc' := 220) zdL_219 zm_169 rfl rfl ?_
  refine zt (pc' := 221) zdL_220 zm_169 rfl rfl ?_
  refine zt (pc' := 222) zdL_221 zm_169 rfl rfl ?_
  refine zev_ialdX (pc' := 223) zdL_222 zm_169 rfl (zB_0 zx4_Rm.2.2.2.1) (by decide) ?_
  refine zt_V (pc' := 226) zdL_223 zm_169 rfl zq_8_23 rfl (Nat.le_of_ble_eq_true rfl) (zB_c zx4_1) zqv_8_23_4 (by decide) rfl (zmet_ov zx4_n h1) ?_
  refine zt (pc' := 227) zdL_226 zm_169 rfl rfl ?_
  refine zt (pc' := 228) zdL_227 zm_169 rfl rfl ?_
  refine zt (pc' := 229) zdL_228 zm_169 rfl rfl ?_
  refine zt (pc' := 230) zdL_229 zm_169 rfl rfl ?_
  refine zt (pc' := 231) zdL_230 zm_169 rfl rfl ?_
  refine zev_ialdX (pc' := 232) zdL_231 zm_169 rfl (zB_0 q1.2.2.2.1) (by decide) ?_
  refine zt (pc' := 233) zdL_232 zm_169 rfl rfl ?_
  refine zt (pc' := 234) zdL_233 zm_169 rfl rfl ?_
  refine zt (pc' := 235) zdL_234 zm_169 rfl rfl ?_
  refine zt (pc' := 236) zdL_235 zm_169 rfl rfl ?_
  refine zev_ialdX (pc' := 237) zdL_236 zm_169 rfl (zB_0 q1.2.2.2.1) (by decide) ?_
  refine zt_V (pc' := 240) zdL_237 zm_169 rfl zq_8_27 rfl (Nat.le_of_ble_eq_true rfl) (zB_c h9) zqv_8_27_5 (by decide) rfl (zmet_ov q1.1 h2) ?_
  refine zt_icT (tgt := 822) (pc' := 243) zdL_240 zm_169 rfl rfl (zeq rfl) ?_
  refine zt (pc' := 825) zdL_822 zm_169 rfl rfl ?_
  refine zt (pc' := 18) zdL_825 zm_169 rfl rfl ?_
  exact zl_out (zB_0 q2.2.2.2.1) (by decide)
theorem zl_unbar {xs : Nat → Int32} (h : zP 100 168 []) : ∃ w', zev 41 169 245 [some (.ref 0), some (.ref 1), some (.ref 9), some (.int 0)] [] (zov (zB 5 xs) zx4) (some (.int 1)) w' ∧ w'.2.1 ≤ 600000 ∧ w'.2.2 ≤ 7302250 := by
  obtain ⟨v, w1, w2, h1, h2, q1, q2⟩ := h
  obtain ⟨fs, h9⟩ := q1.2.2.2.2
  refine ⟨zov (zB 5 xs) w2, ?_, q2.2.1, q2.2.2.1⟩
  refine zt (pc' := 246) zdL_245 zm_169 rfl rfl ?_
  refine zt_V (pc' := 249) zdL_246 zm_169 rfl zq_8_28 rfl (Nat.le_of_ble_eq_true rfl) (zB_c zx4_1) zqv_8_28_4 (by decide) rfl (zmet_ov zx4_n h1) ?_
  refine zt (pc' := 250) zdL_249 zm_169 rfl rfl ?_
  refine zt_V (pc' := 253) zdL_250 zm_169 rfl zq_8_32 rfl (Nat.le_of_ble_eq_true rfl) (zB_c h9) zqv_8_32_5 (by decide) rfl (zmet_ov q1.1 h2) ?_
  refine zt_icT (tgt := 822) (pc' := 256) zdL_253 zm_169 rfl rfl (zeq rfl) ?_
  refine zt (pc' := 825) zdL_822 zm_169 rfl rfl ?_
  refine zt (pc' := 18) zdL_825 zm_169 rfl rfl ?_
  exact zl_out (zB_0 q2.2.2.2.1) (by decide)
theorem zl_sign {xs : Nat → Int32} (h : zP 95 159 [.int (xs 1), .int (xs 2)]) : ∃ w', zev 41 169 258 [some (.ref 0), some (.ref 1), some (.ref 9), some (.int 0)] [] (zov (zB 5 xs) zx4) (some (.int 1)) w' ∧ w'.2.1 ≤ 600000 ∧ w'.2.2 ≤ 7302250 := by
  obtain ⟨v, w1, w2, h1, h2, q1, q2⟩ := h
  obtain ⟨fs, h9⟩ := q1.2.2.2.2
  refine ⟨zov (zB 5 xs) w2, ?_, q2.2.1, q2.2.2.1⟩
  refine zt (pc' := 259) zdL_258 zm_169 rfl rfl ?_
  refine zt (pc' := 260) zdL_259 zm_169 rfl rfl ?_
  refine zt (pc' := 261) zdL_260 zm_169 rfl rfl ?_
  refine zt (pc' := 262) zdL_261 zm_169 rfl rfl ?_
  refine zt (pc' := 263) zdL_262 zm_169 rfl rfl ?_
  refine zev_ialdX (pc' := 264) zdL_263 zm_169 rfl (zB_0 zx4_Rm.2.2.2.1) (by decide) ?_
  refine zt (pc' := 265) zdL_264 zm_169 rfl rfl ?_
  refine zt (pc' := 266) zdL_265 zm_169 rfl rfl ?_
  refine zt (pc' := 267) zdL_266 zm_169 rfl rfl ?_
  refine zt (pc' := 268) zdL_267 zm_169 rfl rfl ?_
  refine zev_ialdX (pc' := 269) zdL_268 zm_169 rfl (zB_0 zx4_Rm.2.2.2.1) (by decide) ?_
  refine zt_V (pc' := 272) zdL_269 zm_169 rfl zq_8_33 rfl (Nat.le_of_ble_eq_true rfl) (zB_c zx4_1) zqv_8_33_4 (by decide) rfl (zmet_ov zx4_n h1) ?_
  refine zt (pc' := 273) zdL_272 zm_169 rfl rfl ?_
  refine zt (pc' := 274) zdL_273 zm_169 rfl rfl ?_
  refine zt (pc' := 275) zdL_274 zm_169 rfl rfl ?_
  refine zt (pc' := 276) zdL_275 zm_169 rfl rfl ?_
  refine zt (pc' := 277) zdL_276 zm_169 rfl rfl ?_
  refine zev_ialdX (pc' := 278) zdL_277 zm_169 rfl (zB_0 q1.2.2.2.1) (by decide) ?_
  refine zt (pc' := 279) zdL_278 zm_169 rfl rfl ?_
  refine zt (pc' := 280) zdL_279 zm_169 rfl rfl ?_
  refine zt (pc' := 281) zdL_280 zm_169 rfl rfl ?_
  refine zt (pc' := 282) zdL_281 zm_169 rfl rfl ?_
  refine zev_ialdX (pc' := 283) zdL_282 zm_169 rfl (zB_0 q1.2.2.2.1) (by decide) ?_
  refine zt_V (pc' := 286) zdL_283 zm_169 rfl zq_8_36 rfl (Nat.le_of_ble_eq_true rfl) (zB_c h9) zqv_8_36_5 (by decide) rfl (zmet_ov q1.1 h2) ?_
  refine zt_icT (tgt := 822) (pc' := 289) zdL_286 zm_169 rfl rfl (zeq rfl) ?_
  refine zt (pc' := 825) zdL_822 zm_169 rfl rfl ?_
  refine zt (pc' := 18) zdL_825 zm_169 rfl rfl ?_
  exact zl_out (zB_0 q2.2.2.2.1) (by decide)
theorem zl_count {xs : Nat → Int32} (h : zP 79 115 [.int (xs 1)]) : ∃ w', zev 41 169 291 [some (.ref 0), some (.ref 1), some (.ref 9), some (.int 0)] [] (zov (zB 5 xs) zx4) (some (.int 1)) w' ∧ w'.2.1 ≤ 600000 ∧ w'.2.2 ≤ 7302250 := by
  obtain ⟨v, w1, w2, h1, h2, q1, q2⟩ := h
  obtain ⟨fs, h9⟩ := q1.2.2.2.2
  refine ⟨zov (zB 5 xs) w2, ?_, q2.2.1, q2.2.2.1⟩
  refine zt (pc' := 292) zdL_291 zm_169 rfl rfl ?_
  refine zt (pc' := 293) zdL_292 zm_169 rfl rfl ?_
  refine zt (pc' := 294) zdL_293 zm_169 rfl rfl ?_
  refine zt (pc' := 295) zdL_294 zm_169 rfl rfl ?_
  refine zt (pc' := 296) zdL_295 zm_169 rfl rfl ?_
  refine zev_ialdX (pc' := 297) zdL_296 zm_169 rfl (zB_0 zx4_Rm.2.2.2.1) (by decide) ?_
  refine zt_V (pc' := 300) zdL_297 zm_169 rfl zq_8_37 rfl (Nat.le_of_ble_eq_true rfl) (zB_c zx4_1) zqv_8_37_4 (by decide) rfl (zmet_ov zx4_n h1) ?_
  refine zt (pc' := 301) zdL_300 zm_169 rfl rfl ?_
  refine zt (pc' := 302) zdL_301 zm_169 rfl rfl ?_
  refine zt (pc' := 303) zdL_302 zm_169 rfl rfl ?_
  refine zt (pc' := 304) zdL_303 zm_169 rfl rfl ?_
  refine zt (pc' := 305) zdL_304 zm_169 rfl rfl ?_
  refine zev_ialdX (pc' := 306) zdL_305 zm_169 rfl (zB_0 q1.2.2.2.1) (by decide) ?_
  refine zt_V (pc' := 309) zdL_306 zm_169 rfl zq_8_40 rfl (Nat.le_of_ble_eq_true rfl) (zB_c h9) zqv_8_40_5 (by decide) rfl (zmet_ov q1.1 h2) ?_
  refine zt_icT (tgt := 822) (pc' := 312) zdL_309 zm_169 rfl rfl (zeq rfl) ?_
  refine zt (pc' := 825) zdL_822 zm_169 rfl rfl ?_
  refine zt (pc' := 18) zdL_825 zm_169 rfl rfl ?_
  exact zl_out (zB_0 q2.2.2.2.1) (by decide)
theorem zl_end {xs : Nat → Int32} (h : zP 80 117 [.int (xs 1), .int (xs 2)]) : ∃ w', zev 41 169 314 [some (.ref 0), some (.ref 1), some (.ref 9), some (.int 0)] [] (zov (zB 5 xs) zx4) (some (.int 1)) w' ∧ w'.2.1 ≤ 600000 ∧ w'.2.2 ≤ 7302250 := by
  obtain ⟨v, w1, w2, h1, h2, q1, q2⟩ := h
  obtain ⟨fs, h9⟩ := q1.2.2.2.2
  refine ⟨zov (zB 5 xs) w2, ?_, q2.2.1, q2.2.2.1⟩
  refine zt (pc' := 315) zdL_314 zm_169 rfl rfl ?_
  refine zt (pc' := 316) zdL_315 zm_169 rfl rfl ?_
  refine zt (pc' := 317) zdL_316 zm_169 rfl rfl ?_
  refine zt (pc' := 318) zdL_317 zm_169 rfl rfl ?_
  refine zt (pc' := 319) zdL_318 zm_169 rfl rfl ?_
  refine zev_ialdX (pc' := 320) zdL_319 zm_169 rfl (zB_0 zx4_Rm.2.2.2.1) (by decide) ?_
  refine zt (pc' := 321) zdL_320 zm_169 rfl rfl ?_
  refine zt (pc' := 322) zdL_321 zm_169 rfl rfl ?_
  refine zt (pc' := 323) zdL_322 zm_169 rfl rfl ?_
  refine zt (pc' := 324) zdL_323 zm_169 rfl rfl ?_
  refine zev_ialdX (pc' := 325) zdL_324 zm_169 rfl (zB_0 zx4_Rm.2.2.2.1) (by decide) ?_
  refine zt_V (pc' := 328) zdL_325 zm_169 rfl zq_8_41 rfl (Nat.le_of_ble_eq_true rfl) (zB_c zx4_1) zqv_8_41_4 (by decide) rfl (zmet_ov zx4_n h1) ?_
  refine zt (pc' := 329) zdL_328 zm_169 rfl rfl ?_
  refine zt (pc' := 330) zdL_329 zm_169 rfl rfl ?_
  refine zt (pc' := 331) zdL_330 zm_169 rfl rfl ?_
  refine zt (pc' := 332) zdL_331 zm_169 rfl rfl ?_
  refine zt (pc' := 333) zdL_332 zm_169 rfl rfl ?_
  refine zev_ialdX (pc' := 334) zdL_333 zm_169 rfl (zB_0 q1.2.2.2.1) (by decide) ?_
  refine zt (pc' := 335) zdL_334 zm_169 rfl rfl ?_
  refine zt (pc' := 336) zdL_335 zm_169 rfl rfl ?_
  refine zt (pc' := 337) zdL_336 zm_169 rfl rfl ?_
  refine zt (pc' := 338) zdL_337 zm_169 rfl rfl ?_
  refine zev_ialdX (pc' := 339) zdL_338 zm_169 rfl (zB_0 q1.2.2.2.1) (by decide) ?_
  refine zt_V (pc' := 342) zdL_339 zm_169 rfl zq_8_44 rfl (Nat.le_of_ble_eq_true rfl) (zB_c h9) zqv_8_44_5 (by decide) rfl (zmet_ov q1.1 h2) ?_
  refine zt_icT (tgt := 822) (pc' := 345) zdL_342 zm_169 rfl rfl (zeq rfl) ?_
  refine zt (pc' := 825) zdL_822 zm_169 rfl rfl ?_
  refine zt (pc' := 18) zdL_825 zm_169 rfl rfl ?_
  exact zl_out (zB_0 q2.2.2.2.1) (by decide)
theorem zl_at {xs : Nat → Int32} (h : zP 72 103 [.int (xs 1), .int (xs 2)]) : ∃ w', zev 41 169 347 [some (.ref 0), some (.ref 1), some (.ref 9), some (.int 0)] [] (zov (zB 5 xs) zx4) (some (.int 1)) w' ∧ w'.2.1 ≤ 600000 ∧ w'.2.2 ≤ 7302250 := by
  obtain ⟨v, w1, w2, h1, h2, q1, q2⟩ := h
  obtain ⟨fs, h9⟩ := q1.2.2.2.2
  refine ⟨zov (zB 5 xs) w2, ?_, q2.2.1, q2.2.2.1⟩
  refine zt (pc' := 348) zdL_347 zm_169 rfl rfl ?_
  refine zt (pc' := 349) zdL_348 zm_169 rfl rfl ?_
  refine zt (pc' := 350) zdL_349 zm_169 rfl rfl ?_
  refine zt (pc' := 351) zdL_350 zm_169 rfl rfl ?_
  refine zt (pc' := 352) zdL_351 zm_169 rfl rfl ?_
  refine zev_ialdX (pc' := 353) zdL_352 zm_169 rfl (zB_0 zx4_Rm.2.2.2.1) (by decide) ?_
  refine zt (pc' := 354) zdL_353 zm_169 rfl rfl ?_
  refine zt (pc' := 355) zdL_354 zm_169 rfl rfl ?_
  refine zt (pc' := 356) zdL_355 zm_169 rfl rfl ?_
  refine zt (pc' := 357) zdL_356 zm_169 rfl rfl ?_
  refine zev_ialdX (pc' := 358) zdL_357 zm_169 rfl (zB_0 zx4_Rm.2.2.2.1) (by decide) ?_
  refine zt_V (pc' := 361) zdL_358 zm_169 rfl zq_8_45 rfl (Nat.le_of_ble_eq_true rfl) (zB_c zx4_1) zqv_8_45_4 (by decide) rfl (zmet_ov zx4_n h1) ?_
  refine zt (pc' := 362) zdL_361 zm_169 rfl rfl ?_
  refine zt (pc' := 363) zdL_362 zm_169 rfl rfl ?_
  refine zt (pc' := 364) zdL_363 zm_169 rfl rfl ?_
  refine zt (pc' := 365) zdL_364 zm_169 rfl rfl ?_
  refine zt (pc' := 366) zdL_365 zm_169 rfl rfl ?_
  refine zev_ialdX (pc' := 367) zdL_366 zm_169 rfl (zB_0 q1.2.2.2.1) (by decide) ?_
  refine zt (pc' := 368) zdL_367 zm_169 rfl rfl ?_
  refine zt (pc' := 369) zdL_368 zm_169 rfl rfl ?_
  refine zt (pc' := 370) zdL_369 zm_169 rfl rfl ?_
  refine zt (pc' := 371) zdL_370 zm_169 rfl rfl ?_
  refine zev_ialdX (pc' := 372) zdL_371 zm_169 rfl (zB_0 q1.2.2.2.1) (by decide) ?_
  refine zt_V (pc' := 375) zdL_372 zm_169 rfl zq_8_48 rfl (Nat.le_of_ble_eq_true rfl) (zB_c h9) zqv_8_48_5 (by decide) rfl (zmet_ov q1.1 h2) ?_
  refine zt_icT (tgt := 822) (pc' := 378) zdL_375 zm_169 rfl rfl (zeq rfl) ?_
  refine zt (pc' := 825) zdL_822 zm_169 rfl rfl ?_
  refine zt (pc' := 18) zdL_825 zm_169 rfl rfl ?_
  exact zl_out (zB_0 q2.2.2.2.1) (by decide)
theorem zl_rank {xs : Nat → Int32} (h : zP 93 154 [.int (xs 1), .int (xs 2)]) : ∃ w', zev 41 169 380 [some (.ref 0), some (.ref 1), some (.ref 9), some (.int 0)] [] (zov (zB 5 xs) zx4) (some (.int 1)) w' ∧ w'.2.1 ≤ 600000 ∧ w'.2.2 ≤ 7302250 := by
  obtain ⟨v, w1, w2, h1, h2, q1, q2⟩ := h
  obtain ⟨fs, h9⟩ := q1.2.2.2.2
  refine ⟨zov (zB 5 xs) w2, ?_, q2.2.1, q2.2.2.1⟩
  refine zt (pc' := 381) zdL_380 zm_169 rfl rfl ?_
  refine zt (pc' := 382) zdL_381 zm_169 rfl rfl ?_
  refine zt (pc' := 383) zdL_382 zm_169 rfl rfl ?_
  refine zt (pc' := 384) zdL_383 zm_169 rfl rfl ?_
  refine zt (pc' := 385) zdL_384 zm_169 rfl rfl ?_
  refine zev_ialdX (pc' := 386) zdL_385 zm_169 rfl (zB_0 zx4_Rm.2.2.2.1) (by decide) ?_
  refine zt (pc' := 387) zdL_386 zm_169 rfl rfl ?_
  refine zt (pc' := 388) zdL_387 zm_169 rfl rfl ?_
  refine zt (pc' := 389) zdL_388 zm_169 rfl rfl ?_
  refine zt (pc' := 390) zdL_389 zm_169 rfl rfl ?_
  refine zev_ialdX (pc' := 391) zdL_390 zm_169 rfl (zB_0 zx4_Rm.2.2.2.1) (by decide) ?_
  refine zt_V (pc' := 394) zdL_391 zm_169 rfl zq_8_49 rfl (Nat.le_of_ble_eq_true rfl) (zB_c zx4_1) zqv_8_49_4 (by decide) rfl (zmet_ov zx4_n h1) ?_
  refine zt (pc' := 395) zdL_394 zm_169 rfl rfl ?_
  refine zt (pc' := 396) zdL_395 zm_169 rfl rfl ?_
  refine zt (pc' := 397) zdL_396 zm_169 rfl rfl ?_
  refine zt (pc' := 398) zdL_397 zm_169 rfl rfl ?_
  refine zt (pc' := 399) zdL_398 zm_169 rfl rfl ?_
  refine zev_ialdX (pc' := 400) zdL_399 zm_169 rfl (zB_0 q1.2.2.2.1) (by decide) ?_
  refine zt (pc' := 401) zdL_400 zm_169 rfl rfl ?_
  refine zt (pc' := 402) zdL_401 zm_169 rfl rfl ?_
  refine zt (pc' := 403) zdL_402 zm_169 rfl rfl ?_
  refine zt (pc' := 404) zdL_403 zm_169 rfl rfl ?_
  refine zev_ialdX (pc' := 405) zdL_404 zm_169 rfl (zB_0 q1.2.2.2.1) (by decide) ?_
  refine zt_V (pc' := 408) zdL_405 zm_169 rfl zq_8_52 rfl (Nat.le_of_ble_eq_true rfl) (zB_c h9) zqv_8_52_5 (by decide) rfl (zmet_ov q1.1 h2) ?_
  refine zt_icT (tgt := 822) (pc' := 411) zdL_408 zm_169 rfl rfl (zeq rfl) ?_
  refine zt (pc' := 825) zdL_822 zm_169 rfl rfl ?_
  refine zt (pc' := 18) zdL_825 zm_169 rfl rfl ?_
  exact zl_out (zB_0 q2.2.2.2.1) (by decide)
theorem zl_closure {xs : Nat → Int32} (h : zP 76 111 [.int (xs 1), .int (xs 2)]) : ∃ w', zev 41 169 413 [some (.ref 0), some (.ref 1), some (.ref 9), some (.int 0)] [] (zov (zB 5 xs) zx4) (some (.int 1)) w' ∧ w'.2.1 ≤ 600000 ∧ w'.2.2 ≤ 7302250 := by
  obtain ⟨v, w1, w2, h1, h2, q1, q2⟩ := h
  obtain ⟨fs, h9⟩ := q1.2.2.2.2
  refine ⟨zov (zB 5 xs) w2, ?_, q2.2.1, q2.2.2.1⟩
  refine zt (pc' := 414) zdL_413 zm_169 rfl rfl ?_
  refine zt (pc' := 415) zdL_414 zm_169 rfl rfl ?_
  refine zt (pc' := 416) zdL_415 zm_169 rfl rfl ?_
  refine zt (pc' := 417) zdL_416 zm_169 rfl rfl ?_
  refine zt (pc' := 418) zdL_417 zm_169 rfl rfl ?_
  refine zev_ialdX (pc' := 419) zdL_418 zm_169 rfl (zB_0 zx4_Rm.2.2.2.1) (by decide) ?_
  refine zt (pc' := 420) zdL_419 zm_169 rfl rfl ?_
  refine zt (pc' := 421) zdL_420 zm_169 rfl rfl ?_
  refine zt (pc' := 422) zdL_421 zm_169 rfl rfl ?_
  refine zt (pc' := 423) zdL_422 zm_169 rfl rfl ?_
  refine zev_ialdX (pc' := 424) zdL_423 zm_169 rfl (zB_0 zx4_Rm.2.2.2.1) (by decide) ?_
  refine zt_V (pc' := 427) zdL_424 zm_169 rfl zq_8_53 rfl (Nat.le_of_ble_eq_true rfl) (zB_c zx4_1) zqv_8_53_4 (by decide) rfl (zmet_ov zx4_n h1) ?_
  refine zt (pc' := 428) zdL_427 zm_169 rfl rfl ?_
  refine zt (pc' := 429) zdL_428 zm_169 rfl rfl ?_
  refine zt (pc' := 430) zdL_429 zm_169 rfl rfl ?_
  refine zt (pc' := 431) zdL_430 zm_169 rfl rfl ?_
  refine zt (pc' := 432) zdL_431 zm_169 rfl rfl ?_
  refine zev_ialdX (pc' := 433) zdL_432 zm_169 rfl (zB_0 q1.2.2.2.1) (by decide) ?_
  refine zt (pc' := 434) zdL_433 zm_169 rfl rfl ?_
  refine zt (pc' := 435) zdL_434 zm_169 rfl rfl ?_
  refine zt (pc' := 436) zdL_435 zm_169 rfl rfl ?_
  refine zt (pc' := 437) zdL_436 zm_169 rfl rfl ?_
  refine zev_ialdX (pc' := 438) zdL_437 zm_169 rfl (zB_0 q1.2.2.2.1) (by decide) ?_
  refine zt_V (pc' := 441) zdL_438 zm_169 rfl zq_8_56 rfl (Nat.le_of_ble_eq_true rfl) (zB_c h9) zqv_8_56_5 (by decide) rfl (zmet_ov q1.1 h2) ?_
  refine zt_icT (tgt := 822) (pc' := 444) zdL_441 zm_169 rfl rfl (zeq rfl) ?_
  refine zt (pc' := 825) zdL_822 zm_169 rfl rfl ?_
  refine zt (pc' := 18) zdL_825 zm_169 rfl rfl ?_
  exact zl_out (zB_0 q2.2.2.2.1) (by decide)
theorem zl_implied {xs : Nat → Int32} (h : zP 82 124 [.int (xs 1), .int (xs 2), .int (xs 3), .int (xs 4)]) : ∃ w', zev 41 169 446 [some (.ref 0), some (.ref 1), some (.ref 9), some (.int 0)] [] (zov (zB 5 xs) zx4) (some (.int 1)) w' ∧ w'.2.1 ≤ 600000 ∧ w'.2.2 ≤ 7302250 := by
  obtain ⟨v, w1, w2, h1, h2, q1, q2⟩ := h
  obtain ⟨fs, h9⟩ := q1.2.2.2.2
  refine ⟨zov (zB 5 xs) w2, ?_, q2.2.1, q2.2.2.1⟩
  refine zt (pc' := 447) zdL_446 zm_169 rfl rfl ?_
  refine zt (pc' := 448) zdL_447 zm_169 rfl rfl ?_
  refine zt (pc' := 449) zdL_448 zm_169 rfl rfl ?_
  refine zt (pc' := 450) zdL_449 zm_169 rfl rfl ?_
  refine zt (pc' := 451) zdL_450 zm_169 rfl rfl ?_
  refine zev_ialdX (pc' := 452) zdL_451 zm_169 rfl (zB_0 zx4_Rm.2.2.2.1) (by decide) ?_
  refine zt (pc' := 453) zdL_452 zm_169 rfl rfl ?_
  refine zt (pc' := 454) zdL_453 zm_169 rfl rfl ?_
  refine zt (pc' := 455) zdL_454 zm_169 rfl rfl ?_
  refine zt (pc' := 456) zdL_455 zm_169 rfl rfl ?_
  refine zev_ialdX (pc' := 457) zdL_456 zm_169 rfl (zB_0 zx4_Rm.2.2.2.1) (by decide) ?_
  refine zt (pc' := 458) zdL_457 zm_169 rfl rfl ?_
  refine zt (pc' := 459) zdL_458 zm_169 rfl rfl ?_
  refine zt (pc' := 460) zdL_459 zm_169 rfl rfl ?_
  refine zt (pc' := 461) zdL_460 zm_169 rfl rfl ?_
  refine zev_ialdX (pc' := 462) zdL_461 zm_169 rfl (zB_0 zx4_Rm.2.2.2.1) (by decide) ?_
  refine zt (pc' := 463) zdL_462 zm_169 rfl rfl ?_
  refine zt (pc' := 464) zdL_463 zm_169 rfl rfl ?_
  refine zt (pc' := 465) zdL_464 zm_169 rfl rfl ?_
  refine zt (pc' := 466) zdL_465 zm_169 rfl rfl ?_
  refine zev_ialdX (pc' := 467) zdL_466 zm_169 rfl (zB_0 zx4_Rm.2.2.2.1) (by decide) ?_
  refine zt_V (pc' := 470) zdL_467 zm_169 rfl zq_8_57 rfl (Nat.le_of_ble_eq_true rfl) (zB_c zx4_1) zqv_8_57_4 (by decide) rfl (zmet_ov zx4_n h1) ?_
  refine zt (pc' := 471) zdL_470 zm_169 rfl rfl ?_
  refine zt (pc' := 472) zdL_471 zm_169 rfl rfl ?_
  refine zt (pc' := 473) zdL_472 zm_169 rfl rfl ?_
  refine zt (pc' := 474) zdL_473 zm_169 rfl rfl ?_
  refine zt (pc' := 475) zdL_474 zm_169 rfl rfl ?_
  refine zev_ialdX (pc' := 476) zdL_475 zm_169 rfl (zB_0 q1.2.2.2.1) (by decide) ?_
  refine zt (pc' := 477) zdL_476 zm_169 rfl rfl ?_
  refine zt (pc' := 478) zdL_477 zm_169 rfl rfl ?_
  refine zt (pc' := 479) zdL_478 zm_169 rfl rfl ?_
  refine zt (pc' := 480) zdL_479 zm_169 rfl rfl ?_
  refine zev_ialdX (pc' := 481) zdL_480 zm_169 rfl (zB_0 q1.2.2.2.1) (by decide) ?_
  refine zt (pc' := 482) zdL_481 zm_169 rfl rfl ?_
  refine zt (pc' := 483) zdL_482 zm_169 rfl rfl ?_
  refine zt (pc' := 484) zdL_483 zm_169 rfl rfl ?_
  refine zt (pc' := 485) zdL_484 zm_169 rfl rfl ?_
  refine zev_ialdX (pc' := 486) zdL_485 zm_169 rfl (zB_0 q1.2.2.2.1) (by decide) ?_
  refine zt (pc' := 487) zdL_486 zm_169 rfl rfl ?_
  refine zt (pc' := 488) zdL_487 zm_169 rfl rfl ?_
  refine zt (pc' := 489) zdL_488 zm_169 rfl rfl ?_
  refine zt (pc' := 490) zdL_489 zm_169 rfl rfl ?_
  refine zev_ialdX (pc' := 491) zdL_490 zm_169 rfl (zB_0 q1.2.2.2.1) (by decide) ?_
  refine zt_V (pc' := 494) zdL_491 zm_169 rfl zq_8_60 rfl (Nat.le_of_ble_eq_true rfl) (zB_c h9) zqv_8_60_5 (by decide) rfl (zmet_ov q1.1 h2) ?_
  refine zt_icT (tgt := 822) (pc' := 497) zdL_494 zm_169 rfl rfl (zeq rfl) ?_
  refine zt (pc' := 825) zdL_822 zm_169 rfl rfl ?_
  refine zt (pc' := 18) zdL_825 zm_169 rfl rfl ?_
  exact zl_out (zB_0 q2.2.2.2.1) (by decide)
theorem zl_rigid {xs : Nat → Int32} (h : zP 94 158 [.int (xs 1)]) : ∃ w', zev 41 169 499 [some (.ref 0), some (.ref 1), some (.ref 9), some (.int 0)] [] (zov (zB 5 xs) zx4) (some (.int 1)) w' ∧ w'.2.1 ≤ 600000 ∧ w'.2.2 ≤ 7302250 := by
  obtain ⟨v, w1, w2, h1, h2, q1, q2⟩ := h
  obtain ⟨fs, h9⟩ := q1.2.2.2.2
  refine ⟨zov (zB 5 xs) w2, ?_, q2.2.1, q2.2.2.1⟩
  refine zt (pc' := 500) zdL_499 zm_169 rfl rfl ?_
  refine zt (pc' := 501) zdL_500 zm_169 rfl rfl ?_
  refine zt (pc' := 502) zdL_501 zm_169 rfl rfl ?_
  refine zt (pc' := 503) zdL_502 zm_169 rfl rfl ?_
  refine zt (pc' := 504) zdL_503 zm_169 rfl rfl ?_
  refine zev_ialdX (pc' := 505) zdL_504 zm_169 rfl (zB_0 zx4_Rm.2.2.2.1) (by decide) ?_
  refine zt_V (pc' := 508) zdL_505 zm_169 rfl zq_8_61 rfl (Nat.le_of_ble_eq_true rfl) (zB_c zx4_1) zqv_8_61_4 (by decide) rfl (zmet_ov zx4_n h1) ?_
  refine zt (pc' := 509) zdL_508 zm_169 rfl rfl ?_
  refine zt (pc' := 510) zdL_509 zm_169 rfl rfl ?_
  refine zt (pc' := 511) zdL_510 zm_169 rfl rfl ?_
  refine zt (pc' := 512) zdL_511 zm_169 rfl rfl ?_
  refine zt (pc' := 513) zdL_512 zm_169 rfl rfl ?_
  refine zev_ialdX (pc' := 514) zdL_513 zm_169 rfl (zB_0 q1.2.2.2.1) (by decide) ?_
  refine zt_V (pc' := 517) zdL_514 zm_169 rfl zq_8_64 rfl (Nat.le_of_ble_eq_true rfl) (zB_c h9) zqv_8_64_5 (by decide) rfl (zmet_ov q1.1 h2) ?_
  refine zt_icT (tgt := 822) (pc' := 520) zdL_517 zm_169 rfl rfl (zeq rfl) ?_
  refine zt (pc' := 825) zdL_822 zm_169 rfl rfl ?_
  refine zt (pc' := 18) zdL_825 zm_169 rfl rfl ?_
  exact zl_out (zB_0 q2.2.2.2.1) (by decide)
theorem zl_lacks {xs : Nat → Int32} (h : zP 87 142 [.int (xs 1)]) : ∃ w', zev 41 169 522 [some (.ref 0), some (.ref 1), some (.ref 9), some (.int 0)] [] (zov (zB 5 xs) zx4) (some (.int 1)) w' ∧ w'.2.1 ≤ 600000 ∧ w'.2.2 ≤ 7302250 := by
  obtain ⟨v, w1, w2, h1, h2, q1, q2⟩ := h
  obtain ⟨fs, h9⟩ := q1.2.2.2.2
  refine ⟨zov (zB 5 xs) w2, ?_, q2.2.1, q2.2.2.1⟩
  refine zt (pc' := 523) zdL_522 zm_169 rfl rfl ?_
  refine zt (pc' := 524) zdL_523 zm_169 rfl rfl ?_
  refine zt (pc' := 525) zdL_524 zm_169 rfl rfl ?_
  refine zt (pc' := 526) zdL_525 zm_169 rfl rfl ?_
  refine zt (pc' := 527) zdL_526 zm_169 rfl rfl ?_
  refine zev_ialdX (pc' := 528) zdL_527 zm_169 rfl (zB_0 zx4_Rm.2.2.2.1) (by decide) ?_
  refine zt_V (pc' := 531) zdL_528 zm_169 rfl zq_8_65 rfl (Nat.le_of_ble_eq_true rfl) (zB_c zx4_1) zqv_8_65_4 (by decide) rfl (zmet_ov zx4_n h1) ?_
  refine zt (pc' := 532) zdL_531 zm_169 rfl rfl ?_
  refine zt (pc' := 533) zdL_532 zm_169 rfl rfl ?_
  refine zt (pc' := 534) zdL_533 zm_169 rfl rfl ?_
  refine zt (pc' := 535) zdL_534 zm_169 rfl rfl ?_
  refine zt (pc' := 536) zdL_535 zm_169 rfl rfl ?_
  refine zev_ialdX (pc' := 537) zdL_536 zm_169 rfl (zB_0 q1.2.2.2.1) (by decide) ?_
  refine zt_V (pc' := 540) zdL_537 zm_169 rfl zq_8_68 rfl (Nat.le_of_ble_eq_true rfl) (zB_c h9) zqv_8_68_5 (by decide) rfl (zmet_ov q1.1 h2) ?_
  refine zt_icT (tgt := 822) (pc' := 543) zdL_540 zm_169 rfl rfl (zeq rfl) ?_
  refine zt (pc' := 825) zdL_822 zm_169 rfl rfl ?_
  refine zt (pc' := 18) zdL_825 zm_169 rfl rfl ?_
  exact zl_out (zB_0 q2.2.2.2.1) (by decide)
theorem zl_spare {xs : Nat → Int32} (h : zP 96 160 [.int (xs 1)]) : ∃ w', zev 41 169 545 [some (.ref 0), some (.ref 1), some (.ref 9), some (.int 0)] [] (zov (zB 5 xs) zx4) (some (.int 1)) w' ∧ w'.2.1 ≤ 600000 ∧ w'.2.2 ≤ 7302250 := by
  obtain ⟨v, w1, w2, h1, h2, q1, q2⟩ := h
  obtain ⟨fs, h9⟩ := q1.2.2.2.2
  refine ⟨zov (zB 5 xs) w2, ?_, q2.2.1, q2.2.2.1⟩
  refine zt (pc' := 546) zdL_545 zm_169 rfl rfl ?_
  refine zt (pc' := 547) zdL_546 zm_169 rfl rfl ?_
  refine zt (pc' := 548) zdL_547 zm_169 rfl rfl ?_
  refine zt (pc' := 549) zdL_548 zm_169 rfl rfl ?_
  refine zt (pc' := 550) zdL_549 zm_169 rfl rfl ?_
  refine zev_ialdX (pc' := 551) zdL_550 zm_169 rfl (zB_0 zx4_Rm.2.2.2.1) (by decide) ?_
  refine zt_V (pc' := 554) zdL_551 zm_169 rfl zq_8_69 rfl (Nat.le_of_ble_eq_true rfl) (zB_c zx4_1) zqv_8_69_4 (by decide) rfl (zmet_ov zx4_n h1) ?_
  refine zt (pc' := 555) zdL_554 zm_169 rfl rfl ?_
  refine zt (pc' := 556) zdL_555 zm_169 rfl rfl ?_
  refine zt (pc' := 557) zdL_556 zm_169 rfl rfl ?_
  refine zt (pc' := 558) zdL_557 zm_169 rfl rfl ?_
  refine zt (pc' := 559) zdL_558 zm_169 rfl rfl ?_
  refine zev_ialdX (pc' := 560) zdL_559 zm_169 rfl (zB_0 q1.2.2.2.1) (by decide) ?_
  refine zt_V (pc' := 563) zdL_560 zm_169 rfl zq_8_72 rfl (Nat.le_of_ble_eq_true rfl) (zB_c h9) zqv_8_72_5 (by decide) rfl (zmet_ov q1.1 h2) ?_
  refine zt_icT (tgt := 822) (pc' := 566) zdL_563 zm_169 rfl rfl (zeq rfl) ?_
  refine zt (pc' := 825) zdL_822 zm_169 rfl rfl ?_
  refine zt (pc' := 18) zdL_825 zm_169 rfl rfl ?_
  exact zl_out (zB_0 q2.2.2.2.1) (by decide)
theorem zl_many {xs : Nat → Int32} (h : zP 90 144 [.int (xs 1), .int (xs 2)]) : ∃ w', zev 41 169 568 [some (.ref 0), some (.ref 1), some (.ref 9), some (.int 0)] [] (zov (zB 5 xs) zx4) (some (.int 1)) w' ∧ w'.2.1 ≤ 600000 ∧ w'.2.2 ≤ 7302250 := by
  obtain ⟨v, w1, w2, h1, h2, q1, q2⟩ := h
  obtain ⟨fs, h9⟩ := q1.2.2.2.2
  refine ⟨zov (zB 5 xs) w2, ?_, q2.2.1, q2.2.2.1⟩
  refine zt (pc' := 569) zdL_568 zm_169 rfl rfl ?_
  refine zt (pc' := 570) zdL_569 zm_169 rfl rfl ?_
  refine zt (pc' := 571) zdL_570 zm_169 rfl rfl ?_
  refine zt (pc' := 572) zdL_571 zm_169 rfl rfl ?_
  refine zt (pc' := 573) zdL_572 zm_169 rfl rfl ?_
  refine zev_ialdX (pc' := 574) zdL_573 zm_169 rfl (zB_0 zx4_Rm.2.2.2.1) (by decide) ?_
  refine zt (pc' := 575) zdL_574 zm_169 rfl rfl ?_
  refine zt (pc' := 576) zdL_575 zm_169 rfl rfl ?_
  refine zt (pc' := 577) zdL_576 zm_169 rfl rfl ?_
  refine zt (pc' := 578) zdL_577 zm_169 rfl rfl ?_
  refine zev_ialdX (pc' := 579) zdL_578 zm_169 rfl (zB_0 zx4_Rm.2.2.2.1) (by decide) ?_
  refine zt_V (pc' := 582) zdL_579 zm_169 rfl zq_8_73 rfl (Nat.le_of_ble_eq_true rfl) (zB_c zx4_1) zqv_8_73_4 (by decide) rfl (zmet_ov zx4_n h1) ?_
  refine zt (pc' := 583) zdL_582 zm_169 rfl rfl ?_
  refine zt (pc' := 584) zdL_583 zm_169 rfl rfl ?_
  refine zt (pc' := 585) zdL_584 zm_169 rfl rfl ?_
  refine zt (pc' := 586) zdL_585 zm_169 rfl rfl ?_
  refine zt (pc' := 587) zdL_586 zm_169 rfl rfl ?_
  refine zev_ialdX (pc' := 588) zdL_587 zm_169 rfl (zB_0 q1.2.2.2.1) (by decide) ?_
  refine zt (pc' := 589) zdL_588 zm_169 rfl rfl ?_
  refine zt (pc' := 590) zdL_589 zm_169 rfl rfl ?_
  refine zt (pc' := 591) zdL_590 zm_169 rfl rfl ?_
  refine zt (pc' := 592) zdL_591 zm_169 rfl rfl ?_
  refine zev_ialdX (pc' := 593) zdL_592 zm_169 rfl (zB_0 q1.2.2.2.1) (by decide) ?_
  refine zt_V (pc' := 596) zdL_593 zm_169 rfl zq_8_76 rfl (Nat.le_of_ble_eq_true rfl) (zB_c h9) zqv_8_76_5 (by decide) rfl (zmet_ov q1.1 h2) ?_
  refine zt_icT (tgt := 822) (pc' := 599) zdL_596 zm_169 rfl rfl (zeq rfl) ?_
  refine zt (pc' := 825) zdL_822 zm_169 rfl rfl ?_
  refine zt (pc' := 18) zdL_825 zm_169 rfl rfl ?_
  exact zl_out (zB_0 q2.2.2.2.1) (by decide)
theorem zl_told {xs : Nat → Int32} (h : zP 99 166 [.int (xs 1), .int (xs 2), .int (xs 3)]) : ∃ w', zev 41 169 601 [some (.ref 0), some (.ref 1), some (.ref 9), some (.int 0)] [] (zov (zB 5 xs) zx4) (some (.int 1)) w' ∧ w'.2.1 ≤ 600000 ∧ w'.2.2 ≤ 7302250 := by
  obtain ⟨v, w1, w2, h1, h2, q1, q2⟩ := h
  obtain ⟨fs, h9⟩ := q1.2.2.2.2
  refine ⟨zov (zB 5 xs) w2, ?_, q2.2.1, q2.2.2.1⟩
  refine zt (pc' := 602) zdL_601 zm_169 rfl rfl ?_
  refine zt (pc' := 603) zdL_602 zm_169 rfl rfl ?_
  refine zt (pc' := 604) zdL_603 zm_169 rfl rfl ?_
  refine zt (pc' := 605) zdL_604 zm_169 rfl rfl ?_
  refine zt (pc' := 606) zdL_605 zm_169 rfl rfl ?_
  refine zev_ialdX (pc' := 607) zdL_606 zm_169 rfl (zB_0 zx4_Rm.2.2.2.1) (by decide) ?_
  refine zt (pc' := 608) zdL_607 zm_169 rfl rfl ?_
  refine zt (pc' := 609) zdL_608 zm_169 rfl rfl ?_
  refine zt (pc' := 610) zdL_609 zm_169 rfl rfl ?_
  refine zt (pc' := 611) zdL_610 zm_169 rfl rfl ?_
  refine zev_ialdX (pc' := 612) zdL_611 zm_169 rfl (zB_0 zx4_Rm.2.2.2.1) (by decide) ?_
  refine zt (pc' := 613) zdL_612 zm_169 rfl rfl ?_
  refine zt (pc' := 614) zdL_613 zm_169 rfl rfl ?_
  refine zt (pc' := 615) zdL_614 zm_169 rfl rfl ?_
  refine zt (pc' := 616) zdL_615 zm_169 rfl rfl ?_
  refine zev_ialdX (pc' := 617) zdL_616 zm_169 rfl (zB_0 zx4_Rm.2.2.2.1) (by decide) ?_
  refine zt_V (pc' := 620) zdL_617 zm_169 rfl zq_8_77 rfl (Nat.le_of_ble_eq_true rfl) (zB_c zx4_1) zqv_8_77_4 (by decide) rfl (zmet_ov zx4_n h1) ?_
  refine zt (pc' := 621) zdL_620 zm_169 rfl rfl ?_
  refine zt (pc' := 622) zdL_621 zm_169 rfl rfl ?_
  refine zt (pc' := 623) zdL_622 zm_169 rfl rfl ?_
  refine zt (pc' := 624) zdL_623 zm_169 rfl rfl ?_
  refine zt (pc' := 625) zdL_624 zm_169 rfl rfl ?_
  refine zev_ialdX (pc' := 626) zdL_625 zm_169 rfl (zB_0 q1.2.2.2.1) (by decide) ?_
  refine zt (pc' := 627) zdL_626 zm_169 rfl rfl ?_
  refine zt (pc' := 628) zdL_627 zm_169 rfl rfl ?_
  refine zt (pc' := 629) zdL_628 zm_169 rfl rfl ?_
  refine zt (pc' := 630) zdL_629 zm_169 rfl rfl ?_
  refine zev_ialdX (pc' := 631) zdL_630 zm_169 rfl (zB_0 q1.2.2.2.1) (by decide) ?_
  refine zt (pc' := 632) zdL_631 zm_169 rfl rfl ?_
  refine zt (pc' := 633) zdL_632 zm_169 rfl rfl ?_
  refine zt (pc' := 634) zdL_633 zm_169 rfl rfl ?_
  refine zt (pc' := 635) zdL_634 zm_169 rfl rfl ?_
  refine zev_ialdX (pc' := 636) zdL_635 zm_169 rfl (zB_0 q1.2.2.2.1) (by decide) ?_
  refine zt_V (pc' := 639) zdL_636 zm_169 rfl zq_8_81 rfl (Nat.le_of_ble_eq_true rfl) (zB_c h9) zqv_8_81_5 (by decide) rfl (zmet_ov q1.1 h2) ?_
  refine zt_icT (tgt := 822) (pc' := 642) zdL_639 zm_169 rfl rfl (zeq rfl) ?_
  refine zt (pc' := 825) zdL_822 zm_169 rfl rfl ?_
  refine zt (pc' := 18) zdL_825 zm_169 rfl rfl ?_
  exact zl_out (zB_0 q2.2.2.2.1) (by decide)
theorem zl_coefficient {xs : Nat → Int32} (h : zP 78 114 [.int (xs 1), .int (xs 2), .int (xs 3)]) : ∃ w', zev 41 169 644 [some (.ref 0), some (.ref 1), some (.ref 9), some (.int 0)] [] (zov (zB 5 xs) zx4) (some (.int 1)) w' ∧ w'.2.1 ≤ 600000 ∧ w'.2.2 ≤ 7302250 := by
  obtain ⟨v, w1, w2, h1, h2, q1, q2⟩ := h
  obtain ⟨fs, h9⟩ := q1.2.2.2.2
  refine ⟨zov (zB 5 xs) w2, ?_, q2.2.1, q2.2.2.1⟩
  refine zt (pc' := 645) zdL_644 zm_169 rfl rfl ?_
  refine zt (pc' := 646) zdL_645 zm_169 rfl rfl ?_
  refine zt (pc' := 647) zdL_646 zm_169 rfl rfl ?_
  refine zt (pc' := 648) zdL_647 zm_169 rfl rfl ?_
  refine zt (pc' := 649) zdL_648 zm_169 rfl rfl ?_
  refine zev_ialdX (pc' := 650) zdL_649 zm_169 rfl (zB_0 zx4_Rm.2.2.2.1) (by decide) ?_
  refine zt (pc' := 651) zdL_650 zm_169 rfl rfl ?_
  refine zt (pc' := 652) zdL_651 zm_169 rfl rfl ?_
  refine zt (pc' := 653) zdL_652 zm_169 rfl rfl ?_
  refine zt (pc' := 654) zdL_653 zm_169 rfl rfl ?_
  refine zev_ialdX (pc' := 655) zdL_654 zm_169 rfl (zB_0 zx4_Rm.2.2.2.1) (by decide) ?_
  refine zt (pc' := 656) zdL_655 zm_169 rfl rfl ?_
  refine zt (pc' := 657) zdL_656 zm_169 rfl rfl ?_
  refine zt (pc' := 658) zdL_657 zm_169 rfl rfl ?_
  refine zt (pc' := 659) zdL_658 zm_169 rfl rfl ?_
  refine zev_ialdX (pc' := 660) zdL_659 zm_169 rfl (zB_0 zx4_Rm.2.2.2.1) (by decide) ?_
  refine zt_V (pc' := 663) zdL_660 zm_169 rfl zq_8_82 rfl (Nat.le_of_ble_eq_true rfl) (zB_c zx4_1) zqv_8_82_4 (by decide) rfl (zmet_ov zx4_n h1) ?_
  refine zt (pc' := 664) zdL_663 zm_169 rfl rfl ?_
  refine zt (pc' := 665) zdL_664 zm_169 rfl rfl ?_
  refine zt (pc' := 666) zdL_665 zm_169 rfl rfl ?_
  refine zt (pc' := 667) zdL_666 zm_169 rfl rfl ?_
  refine zt (pc' := 668) zdL_667 zm_169 rfl rfl ?_
  refine zev_ialdX (pc' := 669) zdL_668 zm_169 rfl (zB_0 q1.2.2.2.1) (by decide) ?_
  refine zt (pc' := 670) zdL_669 zm_169 rfl rfl ?_
  refine zt (pc' := 671) zdL_670 zm_169 rfl rfl ?_
  refine zt (pc' := 672) zdL_671 zm_169 rfl rfl ?_
  refine zt (pc' := 673) zdL_672 zm_169 rfl rfl ?_
  refine zev_ialdX (pc' := 674) zdL_673 zm_169 rfl (zB_0 q1.2.2.2.1) (by decide) ?_
  refine zt (pc' := 675) zdL_674 zm_169 rfl rfl ?_
  refine zt (pc' := 676) zdL_675 zm_169 rfl rfl ?_
  refine zt (pc' := 677) zdL_676 zm_169 rfl rfl ?_
  refine zt (pc' := 678) zdL_677 zm_169 rfl rfl ?_
  refine zev_ialdX (pc' := 679) zdL_678 zm_169 rfl (zB_0 q1.2.2.2.1) (by decide) ?_
  refine zt_V (pc' := 682) zdL_679 zm_169 rfl zq_8_85 rfl (Nat.le_of_ble_eq_true rfl) (zB_c h9) zqv_8_85_5 (by decide) rfl (zmet_ov q1.1 h2) ?_
  refine zt_icT (tgt := 822) (pc' := 685) zdL_682 zm_169 rfl rfl (zeq rfl) ?_
  refine zt (pc' := 825) zdL_822 zm_169 rfl rfl ?_
  refine zt (pc' := 18) zdL_825 zm_169 rfl rfl ?_
  exact zl_out (zB_0 q2.2.2.2.1) (by decide)
theorem zl_cluster {xs : Nat → Int32} (h : zP 77 113 [.int (xs 1), .int (xs 2)]) : ∃ w', zev 41 169 687 [some (.ref 0), some (.ref 1), some (.ref 9), some (.int 0)] [] (zov (zB 5 xs) zx4) (some (.int 1)) w' ∧ w'.2.1 ≤ 600000 ∧ w'.2.2 ≤ 7302250 := by
  obtain ⟨v, w1, w2, h1, h2, q1, q2⟩ := h
  obtain ⟨fs, h9⟩ := q1.2.2.2.2
  refine ⟨zov (zB 5 xs) w2, ?_, q2.2.1, q2.2.2.1⟩
  refine zt (pc' := 688) zdL_687 zm_169 rfl rfl ?_
  refine zt (pc' := 689) zdL_688 zm_169 rfl rfl ?_
  refine zt (pc' := 690) zdL_689 zm_169 rfl rfl ?_
  refine zt (pc' := 691) zdL_690 zm_169 rfl rfl ?_
  refine zt (pc' := 692) zdL_691 zm_169 rfl rfl ?_
  refine zev_ialdX (pc' := 693) zdL_692 zm_169 rfl (zB_0 zx4_Rm.2.2.2.1) (by decide) ?_
  refine zt (pc' := 694) zdL_693 zm_169 rfl rfl ?_
  refine zt (pc' := 695) zdL_694 zm_169 rfl rfl ?_
  refine zt (pc' := 696) zdL_695 zm_169 rfl rfl ?_
  refine zt (pc' := 697) zdL_696 zm_169 rfl rfl ?_
  refine zev_ialdX (pc' := 698) zdL_697 zm_169 rfl (zB_0 zx4_Rm.2.2.2.1) (by decide) ?_
  refine zt_V (pc' := 701) zdL_698 zm_169 rfl zq_8_86 rfl (Nat.le_of_ble_eq_true rfl) (zB_c zx4_1) zqv_8_86_4 (by decide) rfl (zmet_ov zx4_n h1) ?_
  refine zt (pc' := 702) zdL_701 zm_169 rfl rfl ?_
  refine zt (pc' := 703) zdL_702 zm_169 rfl rfl ?_
  refine zt (pc' := 704) zdL_703 zm_169 rfl rfl ?_
  refine zt (pc' := 705) zdL_704 zm_169 rfl rfl ?_
  refine zt (pc' := 706) zdL_705 zm_169 rfl rfl ?_
  refine zev_ialdX (pc' := 707) zdL_706 zm_169 rfl (zB_0 q1.2.2.2.1) (by decide) ?_
  refine zt (pc' := 708) zdL_707 zm_169 rfl rfl ?_
  refine zt (pc' := 709) zdL_708 zm_169 rfl rfl ?_
  refine zt (pc' := 710) zdL_709 zm_169 rfl rfl ?_
  refine zt (pc' := 711) zdL_710 zm_169 rfl rfl ?_
  refine zev_ialdX (pc' := 712) zdL_711 zm_169 rfl (zB_0 q1.2.2.2.1) (by decide) ?_
  refine zt_V (pc' := 715) zdL_712 zm_169 rfl zq_8_89 rfl (Nat.le_of_ble_eq_true rfl) (zB_c h9) zqv_8_89_5 (by decide) rfl (zmet_ov q1.1 h2) ?_
  refine zt_icT (tgt := 822) (pc' := 718) zdL_715 zm_169 rfl rfl (zeq rfl) ?_
  refine zt (pc' := 825) zdL_822 zm_169 rfl rfl ?_
  refine zt (pc' := 18) zdL_825 zm_169 rfl rfl ?_
  exact zl_out (zB_0 q2.2.2.2.1) (by decide)
theorem zl_stressed {xs : Nat → Int32} (h : zP 98 162 [.int (xs 1), .int (xs 2), .int (xs 3)]) : ∃ w', zev 41 169 720 [some (.ref 0), some (.ref 1), some (.ref 9), some (.int 0)] [] (zov (zB 5 xs) zx4) (some (.int 1)) w' ∧ w'.2.1 ≤ 600000 ∧ w'.2.2 ≤ 7302250 := by
  obtain ⟨v, w1, w2, h1, h2, q1, q2⟩ := h
  obtain ⟨fs, h9⟩ := q1.2.2.2.2
  refine ⟨zov (zB 5 xs) w2, ?_, q2.2.1, q2.2.2.1⟩
  refine zt (pc' := 721) zdL_720 zm_169 rfl rfl ?_
  refine zt (pc' := 722) zdL_721 zm_169 rfl rfl ?_
  refine zt (pc' := 723) zdL_722 zm_169 rfl rfl ?_
  refine zt (pc' := 724) zdL_723 zm_169 rfl rfl ?_
  refine zt (pc' := 725) zdL_724 zm_169 rfl rfl ?_
  refine zev_ialdX (pc' := 726) zdL_725 zm_169 rfl (zB_0 zx4_Rm.2.2.2.1) (by decide) ?_
  refine zt (pc' := 727) zdL_726 zm_169 rfl rfl ?_
  refine zt (pc' := 728) zdL_727 zm_169 rfl rfl ?_
  refine zt (pc' := 729) zdL_728 zm_169 rfl rfl ?_
  refine zt (pc' := 730) zdL_729 zm_169 rfl rfl ?_
  refine zev_ialdX (pc' := 731) zdL_730 zm_169 rfl (zB_0 zx4_Rm.2.2.2.1) (by decide) ?_
  refine zt (pc' := 732) zdL_731 zm_169 rfl rfl ?_
  refine zt (pc' := 733) zdL_732 zm_169 rfl rfl ?_
  refine zt (pc' := 734) zdL_733 zm_169 rfl rfl ?_
  refine zt (pc' := 735) zdL_734 zm_169 rfl rfl ?_
  refine zev_ialdX (pc' := 736) zdL_735 zm_169 rfl (zB_0 zx4_Rm.2.2.2.1) (by decide) ?_
  refine zt_V (pc' := 739) zdL_736 zm_169 rfl zq_8_90 rfl (Nat.le_of_ble_eq_true rfl) (zB_c zx4_1) zqv_8_90_4 (by decide) rfl (zmet_ov zx4_n h1) ?_
  refine zt (pc' := 740) zdL_739 zm_169 rfl rfl ?_
  refine zt (pc' := 741) zdL_740 zm_169 rfl rfl ?_
  refine zt (pc' := 742) zdL_741 zm_169 rfl rfl ?_
  refine zt (pc' := 743) zdL_742 zm_169 rfl rfl ?_
  refine zt (pc' := 744) zdL_743 zm_169 rfl rfl ?_
  refine zev_ialdX (pc' := 745) zdL_744 zm_169 rfl (zB_0 q1.2.2.2.1) (by decide) ?_
  refine zt (pc' := 746) zdL_745 zm_169 rfl rfl ?_
  refine zt (pc' := 747) zdL_746 zm_169 rfl rfl ?_
  refine zt (pc' := 748) zdL_747 zm_169 rfl rfl ?_
  refine zt (pc' := 749) zdL_748 zm_169 rfl rfl ?_
  refine zev_ialdX (pc' := 750) zdL_749 zm_169 rfl (zB_0 q1.2.2.2.1) (by decide) ?_
  refine zt (pc' := 751) zdL_750 zm_169 rfl rfl ?_
  refine zt (pc' := 752) zdL_751 zm_169 rfl rfl ?_
  refine zt (pc' := 753) zdL_752 zm_169 rfl rfl ?_
  refine zt (pc' := 754) zdL_753 zm_169 rfl rfl ?_
  refine zev_ialdX (pc' := 755) zdL_754 zm_169 rfl (zB_0 q1.2.2.2.1) (by decide) ?_
  refine zt_V (pc' := 758) zdL_755 zm_169 rfl zq_8_93 rfl (Nat.le_of_ble_eq_true rfl) (zB_c h9) zqv_8_93_5 (by decide) rfl (zmet_ov q1.1 h2) ?_
  refine zt_icT (tgt := 822) (pc' := 761) zdL_758 zm_169 rfl rfl (zeq rfl) ?_
  refine zt (pc' := 825) zdL_822 zm_169 rfl rfl ?_
  refine zt (pc' := 18) zdL_825 zm_169 rfl rfl ?_
  exact zl_out (zB_0 q2.2.2.2.1) (by decide)
theorem zl_holds {xs : Nat → Int32} (h : zP 81 123 [.int (xs 1)]) : ∃ w', zev 41 169 763 [some (.ref 0), some (.ref 1), some (.ref 9), some (.int 0)] [] (zov (zB 5 xs) zx4) (some (.int 1)) w' ∧ w'.2.1 ≤ 600000 ∧ w'.2.2 ≤ 7302250 := by
  obtain ⟨v, w1, w2, h1, h2, q1, q2⟩ := h
  obtain ⟨fs, h9⟩ := q1.2.2.2.2
  refine ⟨zov (zB 5 xs) w2, ?_, q2.2.1, q2.2.2.1⟩
  refine zt (pc' := 764) zdL_763 zm_169 rfl rfl ?_
  refine zt (pc' := 765) zdL_764 zm_169 rfl rfl ?_
  refine zt (pc' := 766) zdL_765 zm_169 rfl rfl ?_
  refine zt (pc' := 767) zdL_766 zm_169 rfl rfl ?_
  refine zt (pc' := 768) zdL_767 zm_169 rfl rfl ?_
  refine zev_ialdX (pc' := 769) zdL_768 zm_169 rfl (zB_0 zx4_Rm.2.2.2.1) (by decide) ?_
  refine zt_V (pc' := 772) zdL_769 zm_169 rfl zq_8_94 rfl (Nat.le_of_ble_eq_true rfl) (zB_c zx4_1) zqv_8_94_4 (by decide) rfl (zmet_ov zx4_n h1) ?_
  refine zt (pc' := 773) zdL_772 zm_169 rfl rfl ?_
  refine zt (pc' := 774) zdL_773 zm_169 rfl rfl ?_
  refine zt (pc' := 775) zdL_774 zm_169 rfl rfl ?_
  refine zt (pc' := 776) zdL_775 zm_169 rfl rfl ?_
  refine zt (pc' := 777) zdL_776 zm_169 rfl rfl ?_
  refine zev_ialdX (pc' := 778) zdL_777 zm_169 rfl (zB_0 q1.2.2.2.1) (by decide) ?_
  refine zt_V (pc' := 781) zdL_778 zm_169 rfl zq_8_97 rfl (Nat.le_of_ble_eq_true rfl) (zB_c h9) zqv_8_97_5 (by decide) rfl (zmet_ov q1.1 h2) ?_
  refine zt_icT (tgt := 822) (pc' := 784) zdL_781 zm_169 rfl rfl (zeq rfl) ?_
  refine zt (pc' := 825) zdL_822 zm_169 rfl rfl ?_
  refine zt (pc' := 18) zdL_825 zm_169 rfl rfl ?_
  exact zl_out (zB_0 q2.2.2.2.1) (by decide)
theorem zl_built {xs : Nat → Int32} (h : zP 75 107 [.int (xs 1)]) : ∃ w', zev 41 169 786 [some (.ref 0), some (.ref 1), some (.ref 9), some (.int 0)] [] (zov (zB 5 xs) zx4) (some (.int 1)) w' ∧ w'.2.1 ≤ 600000 ∧ w'.2.2 ≤ 7302250 := by
  obtain ⟨v, w1, w2, h1, h2, q1, q2⟩ := h
  obtain ⟨fs, h9⟩ := q1.2.2.2.2
  refine ⟨zov (zB 5 xs) w2, ?_, q2.2.1, q2.2.2.1⟩
  refine zt (pc' := 787) zdL_786 zm_169 rfl rfl ?_
  refine zt (pc' := 788) zdL_787 zm_169 rfl rfl ?_
  refine zt (pc' := 789) zdL_788 zm_169 rfl rfl ?_
  refine zt (pc' := 790) zdL_789 zm_169 rfl rfl ?_
  refine zt (pc' := 791) zdL_790 zm_169 rfl rfl ?_
  refine zev_ialdX (pc' := 792) zdL_791 zm_169 rfl (zB_0 zx4_Rm.2.2.2.1) (by decide) ?_
  refine zt_V (pc' := 795) zdL_792 zm_169 rfl zq_8_98 rfl (Nat.le_of_ble_eq_true rfl) (zB_c zx4_1) zqv_8_98_4 (by decide) rfl (zmet_ov zx4_n h1) ?_
  refine zt (pc' := 796) zdL_795 zm_169 rfl rfl ?_
  refine zt (pc' := 797) zdL_796 zm_169 rfl rfl ?_
  refine zt (pc' := 798) zdL_797 zm_169 rfl rfl ?_
  refine zt (pc' := 799) zdL_798 zm_169 rfl rfl ?_
  refine zt (pc' := 800) zdL_799 zm_169 rfl rfl ?_
  refine zev_ialdX (pc' := 801) zdL_800 zm_169 rfl (zB_0 q1.2.2.2.1) (by decide) ?_
  refine zt_V (pc' := 804) zdL_801 zm_169 rfl zq_8_101 rfl (Nat.le_of_ble_eq_true rfl) (zB_c h9) zqv_8_101_5 (by decide) rfl (zmet_ov q1.1 h2) ?_
  refine zt_icT (tgt := 822) (pc' := 807) zdL_804 zm_169 rfl rfl (zeq rfl) ?_
  refine zt (pc' := 825) zdL_822 zm_169 rfl rfl ?_
  refine zt (pc' := 18) zdL_825 zm_169 rfl rfl ?_
  exact zl_out (zB_0 q2.2.2.2.1) (by decide)
theorem zl_oneShape {xs : Nat → Int32} (h : zP 92 147 []) : ∃ w', zev 41 169 809 [some (.ref 0), some (.ref 1), some (.ref 9), some (.int 0)] [] (zov (zB 5 xs) zx4) (some (.int 1)) w' ∧ w'.2.1 ≤ 600000 ∧ w'.2.2 ≤ 7302250 := by
  obtain ⟨v, w1, w2, h1, h2, q1, q2⟩ := h
  obtain ⟨fs, h9⟩ := q1.2.2.2.2
  refine ⟨zov (zB 5 xs) w2, ?_, q2.2.1, q2.2.2.1⟩
  refine zt (pc' := 810) zdL_809 zm_169 rfl rfl ?_
  refine zt_V (pc' := 813) zdL_810 zm_169 rfl zq_8_102 rfl (Nat.le_of_ble_eq_true rfl) (zB_c zx4_1) zqv_8_102_4 (by decide) rfl (zmet_ov zx4_n h1) ?_
  refine zt (pc' := 814) zdL_813 zm_169 rfl rfl ?_
  refine zt_V (pc' := 817) zdL_814 zm_169 rfl zq_8_105 rfl (Nat.le_of_ble_eq_true rfl) (zB_c h9) zqv_8_105_5 (by decide) rfl (zmet_ov q1.1 h2) ?_
  refine zt_icT (tgt := 822) (pc' := 820) zdL_817 zm_169 rfl rfl (zeq rfl) ?_
  refine zt (pc' := 825) zdL_822 zm_169 rfl rfl ?_
  refine zt (pc' := 18) zdL_825 zm_169 rfl rfl ?_
  exact zl_out (zB_0 q2.2.2.2.1) (by decide)
end
section
/-! told, cluster, built: walks (printed by wip/gen/ref4.py) -/
theorem zm_10 : zMt[10]? = some (yX1_allJoints, cX1_allJoints, 1, (some .int), 1, false) := rfl
theorem zd_10 (pc : Nat) : zdec 10 pc = zdl_10.lookup pc := rfl
theorem zm_26 : zMt[26]? = some (yX2_clusterAt, cX2_clusterAt, 4, (some .int), 2, false) := rfl
theorem zd_26 (pc : Nat) : zdec 26 pc = zdl_26.lookup pc := rfl
theorem zm_42 : zMt[42]? = some (yX2_partAt, cX2_partAt, 4, (some .int), 2, false) := rfl
theorem zd_42 (pc : Nat) : zdec 42 pc = zdl_42.lookup pc := rfl
theorem zm_45 : zMt[45]? = some (yX2_setAt, cX2_setAt, 5, (some .int), 2, false) := rfl
theorem zd_45 (pc : Nat) : zdec 45 pc = zdl_45.lookup pc := rfl
theorem zm_75 : zMt[75]? = some (yX6_built, cX6_built, 2, (some .int), 6, false) := rfl
theorem zd_75 (pc : Nat) : zdec 75 pc = zdl_75.lookup pc := rfl
theorem zm_107 : zMt[107]? = some (yX7_built, cX7_built, 4, (some .int), 7, false) := rfl
theorem zd_107 (pc : Nat) : zdec 107 pc = zdl_107.lookup pc := rfl
theorem zm_149 : zMt[149]? = some (yX7_part, cX7_part, 6, (some .int), 7, false) := rfl
theorem zd_149 (pc : Nat) : zdec 149 pc = zdl_149.lookup pc := rfl
theorem zq_2_63 : zcl 2 63 = some (3, 1, 9, 0) := by decide +kernel
theorem zq_2_83 : zcl 2 83 = some (4, 0, 39, 2) := by decide +kernel
theorem zq_2_87 : zcl 2 87 = some (4, 0, 29, 0) := by decide +kernel
theorem zq_2_112 : zcl 2 112 = some (3, 1, 10, 0) := by decide +kernel
theorem zq_2_115 : zcl 2 115 = some (4, 0, 36, 1) := by decide +kernel
theorem zq_6_95 : zcl 6 95 = some (5, 0, 4, 1) := by decide +kernel
theorem zq_6_113 : zcl 6 113 = some (4, 0, 42, 1) := by decide +kernel
theorem zq_6_116 : zcl 6 116 = some (4, 0, 45, 2) := by decide +kernel
theorem zq_6_122 : zcl 6 122 = some (3, 1, 9, 0) := by decide +kernel
theorem zq_6_125 : zcl 6 125 = some (4, 0, 26, 1) := by decide +kernel
theorem zq_7_126 : zcl 7 126 = some (2, 0, 148, 1) := by decide +kernel
theorem zq_7_197 : zcl 7 197 = some (3, 5, 119, 1) := by decide +kernel
theorem zq_7_203 : zcl 7 203 = some (3, 5, 149, 2) := by decide +kernel
theorem zq_7_206 : zcl 7 206 = some (3, 5, 133, 3) := by decide +kernel
theorem zq_7_238 : zcl 7 238 = some (3, 5, 127, 0) := by decide +kernel
theorem zqv_2_63_1 : zclv 2 63 1 = some (3, 1, 9, 0) := by decide +kernel
theorem zqv_2_83_0 : zclv 2 83 0 = some (4, 0, 39, 2) := by decide +kernel
theorem zqv_2_83_2 : zclv 2 83 2 = some (4, 2, 39, 2) := by decide +kernel
theorem zqv_2_87_0 : zclv 2 87 0 = some (4, 0, 29, 0) := by decide +kernel
theorem zqv_2_87_2 : zclv 2 87 2 = some (4, 2, 29, 0) := by decide +kernel
theorem zqv_2_112_1 : zclv 2 112 1 = some (3, 1, 10, 0) := by decide +kernel
theorem zqv_2_115_0 : zclv 2 115 0 = some (4, 0, 36, 1) := by decide +kernel
theorem zqv_2_115_2 : zclv 2 115 2 = some (4, 2, 36, 1) := by decide +kernel
theorem zqv_6_95_0 : zclv 6 95 0 = some (5, 0, 4, 1) := by decide +kernel
theorem zqv_6_95_2 : zclv 6 95 2 = some (5, 2, 52, 1) := by decide +kernel
theorem zqv_6_113_0 : zclv 6 113 0 = some (4, 0, 42, 1) := by decide +kernel
theorem zqv_6_113_2 : zclv 6 113 2 = some (4, 2, 42, 1) := by decide +kernel
theorem zqv_6_116_0 : zclv 6 116 0 = some (4, 0, 45, 2) := by decide +kernel
theorem zqv_6_116_2 : zclv 6 116 2 = some (4, 2, 45, 2) := by decide +kernel
theorem zqv_6_122_1 : zclv 6 122 1 = some (3, 1, 9, 0) := by decide +kernel
theorem zqv_6_125_0 : zclv 6 125 0 = some (4, 0, 26, 1) := by decide +kernel
theorem zqv_6_125_2 : zclv 6 125 2 = some (4, 2, 26, 1) := by decide +kernel
theorem zqv_7_197_5 : zclv 7 197 5 = some (3, 5, 119, 1) := by decide +kernel
theorem zqv_7_203_5 : zclv 7 203 5 = some (3, 5, 149, 2) := by decide +kernel
theorem zqv_7_206_5 : zclv 7 206 5 = some (3, 5, 133, 3) := by decide +kernel
theorem zqv_7_238_5 : zclv 7 238 5 = some (3, 5, 127, 0) := by decide +kernel
theorem zdQ_10_0 : zdec 10 0 = some (.iconst 1, 1) := by decide +kernel
theorem zdQ_10_1 : zdec 10 1 = some (.aload_n 0, 1) := by decide +kernel
theorem zdQ_10_2 : zdec 10 2 = some (.getfield 24, 3) := by decide +kernel
theorem zdQ_10_5 : zdec 10 5 = some (.ishl, 1) := by decide +kernel
theorem zdQ_10_6 : zdec 10 6 = some (.iconst 1, 1) := by decide +kernel
theorem zdQ_10_7 : zdec 10 7 = some (.isub, 1) := by decide +kernel
theorem zdQ_10_8 : zdec 10 8 = some (.ireturn, 1) := by decide +kernel
theorem zdQ_26_0 : zdec 26 0 = some (.iconst 0, 1) := by decide +kernel
theorem zdQ_26_1 : zdec 26 1 = some (.istore_n 2, 1) := by decide +kernel
theorem zdQ_26_2 : zdec 26 2 = some (.iconst 0, 1) := by decide +kernel
theorem zdQ_26_3 : zdec 26 3 = some (.istore_n 3, 1) := by decide +kernel
theorem zdQ_26_4 : zdec 26 4 = some (.iload_n 3, 1) := by decide +kernel
theorem zdQ_26_5 : zdec 26 5 = some (.aload_n 0, 1) := by decide +kernel
theorem zdQ_26_6 : zdec 26 6 = some (.getfield 28, 3) := by decide +kernel
theorem zdQ_26_9 : zdec 26 9 = some (.invokevirtual 112, 3) := by decide +kernel
theorem zdQ_26_12 : zdec 26 12 = some (.if_icmp .gt 27, 3) := by decide +kernel
theorem zdQ_26_15 : zdec 26 15 = some (.aload_n 0, 1) := by decide +kernel
theorem zdQ_26_16 : zdec 26 16 = some (.iload_n 3, 1) := by decide +kernel
theorem zdQ_26_17 : zdec 26 17 = some (.invokevirtual 115, 3) := by decide +kernel
theorem zdQ_26_20 : zdec 26 20 = some (.ifCond .eq 13, 3) := by decide +kernel
theorem zdQ_26_33 : zdec 26 33 = some (.iinc 3 1, 3) := by decide +kernel
theorem zdQ_26_36 : zdec 26 36 = some (.goto (-32), 3) := by decide +kernel
theorem zdQ_26_39 : zdec 26 39 = some (.iconst (-1), 1) := by decide +kernel
theorem zdQ_26_40 : zdec 26 40 = some (.ireturn, 1) := by decide +kernel
theorem zdQ_42_0 : zdec 42 0 = some (.aload_n 0, 1) := by decide +kernel
theorem zdQ_42_1 : zdec 42 1 = some (.invokevirtual 87, 3) := by decide +kernel
theorem zdQ_42_4 : zdec 42 4 = some (.iconst 0, 1) := by decide +kernel
theorem zdQ_42_5 : zdec 42 5 = some (.istore_n 2, 1) := by decide +kernel
theorem zdQ_42_6 : zdec 42 6 = some (.iconst 0, 1) := by decide +kernel
theorem zdQ_42_7 : zdec 42 7 = some (.istore_n 3, 1) := by decide +kernel
theorem zdQ_42_8 : zdec 42 8 = some (.iload_n 3, 1) := by decide +kernel
theorem zdQ_42_9 : zdec 42 9 = some (.aload_n 0, 1) := by decide +kernel
theorem zdQ_42_10 : zdec 42 10 = some (.getfield 28, 3) := by decide +kernel
theorem zdQ_42_13 : zdec 42 13 = some (.getfield 47, 3) := by decide +kernel
theorem zdQ_42_16 : zdec 42 16 = some (.if_icmp .ge 32, 3) := by decide +kernel
theorem zdQ_42_48 : zdec 42 48 = some (.iconst (-1), 1) := by decide +kernel
theorem zdQ_42_49 : zdec 42 49 = some (.ireturn, 1) := by decide +kernel
theorem zdQ_45_0 : zdec 45 0 = some (.iconst 0, 1) := by decide +kernel
theorem zdQ_45_1 : zdec 45 1 = some (.istore_n 3, 1) := by decide +kernel
theorem zdQ_45_2 : zdec 45 2 = some (.iconst 0, 1) := by decide +kernel
theorem zdQ_45_3 : zdec 45 3 = some (.istore 4, 2) := by decide +kernel
theorem zdQ_45_5 : zdec 45 5 = some (.iload 4, 2) := by decide +kernel
theorem zdQ_45_7 : zdec 45 7 = some (.aload_n 0, 1) := by decide +kernel
theorem zdQ_45_8 : zdec 45 8 = some (.getfield 28, 3) := by decide +kernel
theorem zdQ_45_11 : zdec 45 11 = some (.invokevirtual 63, 3) := by decide +kernel
theorem zdQ_45_14 : zdec 45 14 = some (.if_icmp .gt 30, 3) := by decide +kernel
theorem zdQ_45_17 : zdec 45 17 = some (.aload_n 0, 1) := by decide +kernel
theorem zdQ_45_18 : zdec 45 18 = some (.iload_n 1, 1) := by decide +kernel
theorem zdQ_45_19 : zdec 45 19 = some (.iload 4, 2) := by decide +kernel
theorem zdQ_45_21 : zdec 45 21 = some (.invokevirtual 83, 3) := by decide +kernel
theorem zdQ_45_24 : zdec 45 24 = some (.ifCond .eq 14, 3) := by decide +kernel
theorem zdQ_45_27 : zdec 45 27 = some (.iload_n 3, 1) := by decide +kernel
theorem zdQ_45_28 : zdec 45 28 = some (.iload_n 2, 1) := by decide +kernel
theorem zdQ_45_29 : zdec 45 29 = some (.if_icmp .ne 6, 3) := by decide +kernel
theorem zdQ_45_35 : zdec 45 35 = some (.iinc 3 1, 3) := by decide +kernel
theorem zdQ_45_38 : zdec 45 38 = some (.iinc 4 1, 3) := by decide +kernel
theorem zdQ_45_41 : zdec 45 41 = some (.goto (-36), 3) := by decide +kernel
theorem zdQ_45_44 : zdec 45 44 = some (.iconst (-1), 1) := by decide +kernel
theorem zdQ_45_45 : zdec 45 45 = some (.ireturn, 1) := by decide +kernel
theorem zdQ_75_0 : zdec 75 0 = some (.aload_n 0, 1) := by decide +kernel
theorem zdQ_75_1 : zdec 75 1 = some (.getfield 12, 3) := by decide +kernel
theorem zdQ_75_4 : zdec 75 4 = some (.iload_n 1, 1) := by decide +kernel
theorem zdQ_75_5 : zdec 75 5 = some (.invokevirtual 34, 3) := by decide +kernel
theorem zdQ_75_8 : zdec 75 8 = some (.ifCond .eq 12, 3) := by decide +kernel
theorem zdQ_75_20 : zdec 75 20 = some (.iconst (-1), 1) := by decide +kernel
theorem zdQ_75_21 : zdec 75 21 = some (.ireturn, 1) := by decide +kernel
theorem zdQ_77_0 : zdec 77 0 = some (.aload_n 0, 1) := by decide +kernel
theorem zdQ_77_1 : zdec 77 1 = some (.iload_n 1, 1) := by decide +kernel
theorem zdQ_77_2 : zdec 77 2 = some (.invokevirtual 82, 3) := by decide +kernel
theorem zdQ_77_5 : zdec 77 5 = some (.astore_n 3, 1) := by decide +kernel
theorem zdQ_77_6 : zdec 77 6 = some (.aload_n 3, 1) := by decide +kernel
theorem zdQ_77_7 : zdec 77 7 = some (.ifnonnull 6, 3) := by decide +kernel
theorem zdQ_77_13 : zdec 77 13 = some (.aload_n 3, 1) := by decide +kernel
theorem zdQ_77_14 : zdec 77 14 = some (.aload_n 0, 1) := by decide +kernel
theorem zdQ_77_15 : zdec 77 15 = some (.getfield 12, 3) := by decide +kernel
theorem zdQ_77_18 : zdec 77 18 = some (.invokevirtual 122, 3) := by decide +kernel
theorem zdQ_77_21 : zdec 77 21 = some (.invokevirtual 95, 3) := by decide +kernel
theorem zdQ_77_24 : zdec 77 24 = some (.aload_n 3, 1) := by decide +kernel
theorem zdQ_77_25 : zdec 77 25 = some (.iload_n 2, 1) := by decide +kernel
theorem zdQ_77_26 : zdec 77 26 = some (.invokevirtual 125, 3) := by decide +kernel
theorem zdQ_77_29 : zdec 77 29 = some (.ireturn, 1) := by decide +kernel
theorem zdQ_99_0 : zdec 99 0 = some (.aload_n 0, 1) := by decide +kernel
theorem zdQ_99_1 : zdec 99 1 = some (.iload_n 1, 1) := by decide +kernel
theorem zdQ_99_2 : zdec 99 2 = some (.invokevirtual 82, 3) := by decide +kernel
theorem zdQ_99_5 : zdec 99 5 = some (.astore 4, 2) := by decide +kernel
theorem zdQ_99_7 : zdec 99 7 = some (.aload 4, 2) := by decide +kernel
theorem zdQ_99_9 : zdec 99 9 = some (.ifnull 13, 3) := by decide +kernel
theorem zdQ_99_12 : zdec 99 12 = some (.iload_n 2, 1) := by decide +kernel
theorem zdQ_99_13 : zdec 99 13 = some (.ifCond .lt 9, 3) := by decide +kernel
theorem zdQ_99_16 : zdec 99 16 = some (.iload_n 2, 1) := by decide +kernel
theorem zdQ_99_17 : zdec 99 17 = some (.bipush 7, 2) := by decide +kernel
theorem zdQ_99_19 : zdec 99 19 = some (.if_icmp .lt 6, 3) := by decide +kernel
theorem zdQ_99_25 : zdec 99 25 = some (.iload_n 2, 1) := by decide +kernel
theorem zdQ_99_26 : zdec 99 26 = some (.iconst 4, 1) := by decide +kernel
theorem zdQ_99_27 : zdec 99 27 = some (.if_icmp .ne 12, 3) := by decide +kernel
theorem zdQ_99_30 : zdec 99 30 = some (.aload 4, 2) := by decide +kernel
theorem zdQ_99_32 : zdec 99 32 = some (.iload_n 3, 1) := by decide +kernel
theorem zdQ_99_33 : zdec 99 33 = some (.invokevirtual 113, 3) := by decide +kernel
theorem zdQ_99_36 : zdec 99 36 = some (.goto 10, 3) := by decide +kernel
theorem zdQ_99_39 : zdec 99 39 = some (.aload 4, 2) := by decide +kernel
theorem zdQ_99_41 : zdec 99 41 = some (.iload_n 2, 1) := by decide +kernel
theorem zdQ_99_42 : zdec 99 42 = some (.iload_n 3, 1) := by decide +kernel
theorem zdQ_99_43 : zdec 99 43 = some (.invokevirtual 116, 3) := by decide +kernel
theorem zdQ_99_46 : zdec 99 46 = some (.ireturn, 1) := by decide +kernel
theorem zdQ_107_0 : zdec 107 0 = some (.iconst 0, 1) := by decide +kernel
theorem zdQ_107_1 : zdec 107 1 = some (.istore_n 2, 1) := by decide +kernel
theorem zdQ_107_2 : zdec 107 2 = some (.iload_n 2, 1) := by decide +kernel
theorem zdQ_107_3 : zdec 107 3 = some (.aload_n 0, 1) := by decide +kernel
theorem zdQ_107_4 : zdec 107 4 = some (.getfield 7, 3) := by decide +kernel
theorem zdQ_107_7 : zdec 107 7 = some (.if_icmp .ge 16, 3) := by decide +kernel
theorem zdQ_107_10 : zdec 107 10 = some (.aload_n 0, 1) := by decide +kernel
theorem zdQ_107_11 : zdec 107 11 = some (.getfield 64, 3) := by decide +kernel
theorem zdQ_107_14 : zdec 107 14 = some (.iload_n 2, 1) := by decide +kernel
theorem zdQ_107_15 : zdec 107 15 = some (.iload_n 2, 1) := by decide +kernel
theorem zdQ_107_16 : zdec 107 16 = some (.iastore, 1) := by decide +kernel
theorem zdQ_107_17 : zdec 107 17 = some (.iinc 2 1, 3) := by decide +kernel
theorem zdQ_107_20 : zdec 107 20 = some (.goto (-18), 3) := by decide +kernel
theorem zdQ_107_23 : zdec 107 23 = some (.aload_n 0, 1) := by decide +kernel
theorem zdQ_107_24 : zdec 107 24 = some (.invokevirtual 238, 3) := by decide +kernel
theorem zdQ_107_27 : zdec 107 27 = some (.istore_n 2, 1) := by decide +kernel
theorem zdQ_107_28 : zdec 107 28 = some (.iconst 1, 1) := by decide +kernel
theorem zdQ_107_29 : zdec 107 29 = some (.istore_n 3, 1) := by decide +kernel
theorem zdQ_107_30 : zdec 107 30 = some (.iload_n 2, 1) := by decide +kernel
theorem zdQ_107_31 : zdec 107 31 = some (.ifCond .ne 32, 3) := by decide +kernel
theorem zdQ_107_63 : zdec 107 63 = some (.iload_n 2, 1) := by decide +kernel
theorem zdQ_107_64 : zdec 107 64 = some (.ifCond .eq 26, 3) := by decide +kernel
theorem zdQ_107_67 : zdec 107 67 = some (.iload_n 1, 1) := by decide +kernel
theorem zdQ_107_68 : zdec 107 68 = some (.iconst 0, 1) := by decide +kernel
theorem zdQ_107_69 : zdec 107 69 = some (.aload_n 0, 1) := by decide +kernel
theorem zdQ_107_70 : zdec 107 70 = some (.getfield 7, 3) := by decide +kernel
theorem zdQ_107_73 : zdec 107 73 = some (.iconst 1, 1) := by decide +kernel
theorem zdQ_107_74 : zdec 107 74 = some (.isub, 1) := by decide +kernel
theorem zdQ_107_75 : zdec 107 75 = some (.invokestatic 70, 3) := by decide +kernel
theorem zdQ_107_78 : zdec 107 78 = some (.ifCond .eq 12, 3) := by decide +kernel
theorem zdQ_107_90 : zdec 107 90 = some (.iconst (-1), 1) := by decide +kernel
theorem zdQ_107_91 : zdec 107 91 = some (.ireturn, 1) := by decide +kernel
theorem zdQ_113_0 : zdec 113 0 = some (.aload_n 0, 1) := by decide +kernel
theorem zdQ_113_1 : zdec 113 1 = some (.iload_n 1, 1) := by decide +kernel
theorem zdQ_113_2 : zdec 113 2 = some (.invokevirtual 158, 3) := by decide +kernel
theorem zdQ_113_5 : zdec 113 5 = some (.ifCond .ne 6, 3) := by decide +kernel
theorem zdQ_113_11 : zdec 113 11 = some (.iconst 0, 1) := by decide +kernel
theorem zdQ_113_12 : zdec 113 12 = some (.istore_n 3, 1) := by decide +kernel
theorem zdQ_113_13 : zdec 113 13 = some (.iload_n 3, 1) := by decide +kernel
theorem zdQ_113_14 : zdec 113 14 = some (.aload_n 0, 1) := by decide +kernel
theorem zdQ_113_15 : zdec 113 15 = some (.getfield 7, 3) := by decide +kernel
theorem zdQ_113_18 : zdec 113 18 = some (.if_icmp .ge 48, 3) := by decide +kernel
theorem zdQ_113_21 : zdec 113 21 = some (.iconst 0, 1) := by decide +kernel
theorem zdQ_113_22 : zdec 113 22 = some (.istore 4, 2) := by decide +kernel
theorem zdQ_113_24 : zdec 113 24 = some (.iload 4, 2) := by decide +kernel
theorem zdQ_113_26 : zdec 113 26 = some (.iload_n 3, 1) := by decide +kernel
theorem zdQ_113_27 : zdec 113 27 = some (.if_icmp .ge 33, 3) := by decide +kernel
theorem zdQ_113_60 : zdec 113 60 = some (.iinc 3 1, 3) := by decide +kernel
theorem zdQ_113_63 : zdec 113 63 = some (.goto (-50), 3) := by decide +kernel
theorem zdQ_113_66 : zdec 113 66 = some (.iconst 0, 1) := by decide +kernel
theorem zdQ_113_67 : zdec 113 67 = some (.istore_n 3, 1) := by decide +kernel
theorem zdQ_113_68 : zdec 113 68 = some (.iconst (-1), 1) := by decide +kernel
theorem zdQ_113_69 : zdec 113 69 = some (.istore 4, 2) := by decide +kernel
theorem zdQ_113_71 : zdec 113 71 = some (.iconst 0, 1) := by decide +kernel
theorem zdQ_113_72 : zdec 113 72 = some (.istore 5, 2) := by decide +kernel
theorem zdQ_113_74 : zdec 113 74 = some (.iload 5, 2) := by decide +kernel
theorem zdQ_113_76 : zdec 113 76 = some (.iconst 1, 1) := by decide +kernel
theorem zdQ_113_77 : zdec 113 77 = some (.aload_n 0, 1) := by decide +kernel
theorem zdQ_113_78 : zdec 113 78 = some (.getfield 7, 3) := by decide +kernel
theorem zdQ_113_81 : zdec 113 81 = some (.ishl, 1) := by decide +kernel
theorem zdQ_113_82 : zdec 113 82 = some (.if_icmp .ge 111, 3) := by decide +kernel
theorem zdQ_113_85 : zdec 113 85 = some (.iload 5, 2) := by decide +kernel
theorem zdQ_113_87 : zdec 113 87 = some (.invokestatic 126, 3) := by decide +kernel
theorem zdQ_113_90 : zdec 113 90 = some (.iconst 1, 1) := by decide +kernel
theorem zdQ_113_91 : zdec 113 91 = some (.if_icmp .le 16, 3) := by decide +kernel
theorem zdQ_113_107 : zdec 113 107 = some (.iconst 0, 1) := by decide +kernel
theorem zdQ_113_108 : zdec 113 108 = some (.istore 6, 2) := by decide +kernel
theorem zdQ_113_110 : zdec 113 110 = some (.iconst 0, 1) := by decide +kernel
theorem zdQ_113_111 : zdec 113 111 = some (.istore 7, 2) := by decide +kernel
theorem zdQ_113_113 : zdec 113 113 = some (.iload 7, 2) := by decide +kernel
theorem zdQ_113_115 : zdec 113 115 = some (.aload_n 0, 1) := by decide +kernel
theorem zdQ_113_116 : zdec 113 116 = some (.getfield 7, 3) := by decide +kernel
theorem zdQ_113_119 : zdec 113 119 = some (.if_icmp .ge 46, 3) := by decide +kernel
theorem zdQ_113_122 : zdec 113 122 = some (.iload 6, 2) := by decide +kernel
theorem zdQ_113_124 : zdec 113 124 = some (.ifCond .eq 41, 3) := by decide +kernel
theorem zdQ_113_165 : zdec 113 165 = some (.iload 6, 2) := by decide +kernel
theorem zdQ_113_167 : zdec 113 167 = some (.ifCond .eq 20, 3) := by decide +kernel
theorem zdQ_113_187 : zdec 113 187 = some (.iinc 5 1, 3) := by decide +kernel
theorem zdQ_113_190 : zdec 113 190 = some (.goto (-116), 3) := by decide +kernel
theorem zdQ_113_193 : zdec 113 193 = some (.iload 4, 2) := by decide +kernel
theorem zdQ_113_195 : zdec 113 195 = some (.ireturn, 1) := by decide +kernel
theorem zdQ_149_0 : zdec 149 0 = some (.aload_n 0, 1) := by decide +kernel
theorem zdQ_149_1 : zdec 149 1 = some (.iload_n 1, 1) := by decide +kernel
theorem zdQ_149_2 : zdec 149 2 = some (.invokevirtual 197, 3) := by decide +kernel
theorem zdQ_149_5 : zdec 149 5 = some (.iconst 0, 1) := by decide +kernel
theorem zdQ_149_6 : zdec 149 6 = some (.istore_n 3, 1) := by decide +kernel
theorem zdQ_149_7 : zdec 149 7 = some (.iconst (-1), 1) := by decide +kernel
theorem zdQ_149_8 : zdec 149 8 = some (.istore 4, 2) := by decide +kernel
theorem zdQ_149_10 : zdec 149 10 = some (.iconst 0, 1) := by decide +kernel
theorem zdQ_149_11 : zdec 149 11 = some (.istore 5, 2) := by decide +kernel
theorem zdQ_149_13 : zdec 149 13 = some (.iload 5, 2) := by decide +kernel
theorem zdQ_149_15 : zdec 149 15 = some (.aload_n 0, 1) := by decide +kernel
theorem zdQ_149_16 : zdec 149 16 = some (.getfield 74, 3) := by decide +kernel
theorem zdQ_149_19 : zdec 149 19 = some (.if_icmp .ge 48, 3) := by decide +kernel
theorem zdQ_149_67 : zdec 149 67 = some (.aload_n 0, 1) := by decide +kernel
theorem zdQ_149_68 : zdec 149 68 = some (.iload_n 3, 1) := by decide +kernel
theorem zdQ_149_69 : zdec 149 69 = some (.putfield 200, 3) := by decide +kernel
theorem zdQ_149_72 : zdec 149 72 = some (.iload 4, 2) := by decide +kernel
theorem zdQ_149_74 : zdec 149 74 = some (.ireturn, 1) := by decide +kernel
theorem zdQ_166_0 : zdec 166 0 = some (.aload_n 0, 1) := by decide +kernel
theorem zdQ_166_1 : zdec 166 1 = some (.iload_n 1, 1) := by decide +kernel
theorem zdQ_166_2 : zdec 166 2 = some (.invokevirtual 158, 3) := by decide +kernel
theorem zdQ_166_5 : zdec 166 5 = some (.ifCond .eq 13, 3) := by decide +kernel
theorem zdQ_166_8 : zdec 166 8 = some (.iload_n 2, 1) := by decide +kernel
theorem zdQ_166_9 : zdec 166 9 = some (.iconst 0, 1) := by decide +kernel
theorem zdQ_166_10 : zdec 166 10 = some (.bipush 6, 2) := by decide +kernel
theorem zdQ_166_12 : zdec 166 12 = some (.invokestatic 70, 3) := by decide +kernel
theorem zdQ_166_15 : zdec 166 15 = some (.ifCond .ne 6, 3) := by decide +kernel
theorem zdQ_166_21 : zdec 166 21 = some (.iload_n 2, 1) := by decide +kernel
theorem zdQ_166_22 : zdec 166 22 = some (.iconst 4, 1) := by decide +kernel
theorem zdQ_166_23 : zdec 166 23 = some (.if_icmp .ne 10, 3) := by decide +kernel
theorem zdQ_166_26 : zdec 166 26 = some (.aload_n 0, 1) := by decide +kernel
theorem zdQ_166_27 : zdec 166 27 = some (.iload_n 1, 1) := by decide +kernel
theorem zdQ_166_28 : zdec 166 28 = some (.iload_n 3, 1) := by decide +kernel
theorem zdQ_166_29 : zdec 166 29 = some (.invokevirtual 203, 3) := by decide +kernel
theorem zdQ_166_32 : zdec 166 32 = some (.ireturn, 1) := by decide +kernel
theorem zdQ_166_33 : zdec 166 33 = some (.iconst 0, 1) := by decide +kernel
theorem zdQ_166_34 : zdec 166 34 = some (.istore 4, 2) := by decide +kernel
theorem zdQ_166_36 : zdec 166 36 = some (.iconst (-1), 1) := by decide +kernel
theorem zdQ_166_37 : zdec 166 37 = some (.istore 5, 2) := by decide +kernel
theorem zdQ_166_39 : zdec 166 39 = some (.iconst 0, 1) := by decide +kernel
theorem zdQ_166_40 : zdec 166 40 = some (.istore 6, 2) := by decide +kernel
theorem zdQ_166_42 : zdec 166 42 = some (.iload 6, 2) := by decide +kernel
theorem zdQ_166_44 : zdec 166 44 = some (.aload_n 0, 1) := by decide +kernel
theorem zdQ_166_45 : zdec 166 45 = some (.invokevirtual 151, 3) := by decide +kernel
theorem zdQ_166_48 : zdec 166 48 = some (.if_icmp .gt 43, 3) := by decide +kernel
theorem zdQ_166_51 : zdec 166 51 = some (.iload 5, 2) := by decide +kernel
theorem zdQ_166_53 : zdec 166 53 = some (.ifCond .ge 38, 3) := by decide +kernel
theorem zdQ_166_56 : zdec 166 56 = some (.aload_n 0, 1) := by decide +kernel
theorem zdQ_166_57 : zdec 166 57 = some (.iload_n 1, 1) := by decide +kernel
theorem zdQ_166_58 : zdec 166 58 = some (.iload_n 2, 1) := by decide +kernel
theorem zdQ_166_59 : zdec 166 59 = some (.iload 6, 2) := by decide +kernel
theorem zdQ_166_61 : zdec 166 61 = some (.invokevirtual 206, 3) := by decide +kernel
theorem zdQ_166_64 : zdec 166 64 = some (.ifCond .eq 21, 3) := by decide +kernel
theorem zdQ_166_67 : zdec 166 67 = some (.iload 4, 2) := by decide +kernel
theorem zdQ_166_69 : zdec 166 69 = some (.iload_n 3, 1) := by decide +kernel
theorem zdQ_166_70 : zdec 166 70 = some (.if_icmp .ne 8, 3) := by decide +kernel
theorem zdQ_166_78 : zdec 166 78 = some (.iload 5, 2) := by decide +kernel
theorem zdQ_166_80 : zdec 166 80 = some (.istore 5, 2) := by decide +kernel
theorem zdQ_166_82 : zdec 166 82 = some (.iinc 4 1, 3) := by decide +kernel
theorem zdQ_166_85 : zdec 166 85 = some (.iinc 6 1, 3) := by decide +kernel
theorem zdQ_166_88 : zdec 166 88 = some (.goto (-46), 3) := by decide +kernel
theorem zdQ_166_91 : zdec 166 91 = some (.iload 5, 2) := by decide +kernel
theorem zdQ_166_93 : zdec 166 93 = some (.ireturn, 1) := by decide +kernel
theorem zr_e0 : (1 <<< ((0 : Int32) &&& 31) - 1 : Int32) = 0 := by decide
theorem zr_aB {d : Nat} {w : zW} {a : Nat} {p0 p1 p2 p3 : Value} {j ve : Int32} (hF : w.1 a = some (.inr (1, [p0, p1, p2, p3, .int j, .int 0, .int ve]))) : zmet d 9 [.ref a] w (some (.int 0)) w := by
  have h := c_allBars (d := d) hF
  rw [zr_e0] at h
  exact h
theorem zr_all {d : Nat} {w : zW} {ms : List Value} {n : Int32} {pl : Value} (hM : w.1 9 = some (.inr (5, .int n :: pl :: .int 0 :: ms))) : zmet d 102 [.ref 9] w (some (.int 0)) w := by
  have h := c_all (d := d) hM
  rw [zr_e0] at h
  exact h
theorem zr_aJ {d : Nat} {w : zW} {a : Nat} {p0 p1 p2 p3 : Value} {bs ve : Int32} (hF : w.1 a = some (.inr (1, [p0, p1, p2, p3, .int 1, .int bs, .int ve]))) : zmet (d) 10 [.ref a] w (some (.int 1)) w := by
  refine ⟨_, rfl, Nat.le_of_ble_eq_true rfl, ?_⟩
  show zev (d) 10 0 [some (.ref a)] [] w _ _
  refine zt (pc' := 1) zdQ_10_0 zm_10 rfl rfl ?_
  refine zt (pc' := 2) zdQ_10_1 zm_10 rfl rfl ?_
  refine zt_get (pc' := 5) zdQ_10_2 zm_10 rfl rfl hF (by decide) rfl ?_
  refine zt (pc' := 6) zdQ_10_5 zm_10 rfl rfl ?_
  refine zt (pc' := 7) zdQ_10_6 zm_10 rfl rfl ?_
  refine zt (pc' := 8) zdQ_10_7 zm_10 rfl rfl ?_
  exact zte zdQ_10_8 zm_10 rfl
theorem zt_put {d mi pc mL o : Nat} {L : zL} {rr : List Value} {w w' : zW} {r : Option Value} {y : MethodName} {b : ByteArray} {ret : Option FieldType} {ini : Bool} {pc' idx a ci k : Nat} {fs : List Value} {cs : List Nat} {v : Value} (hd : zdec mi pc = some (.putfield idx, 3)) (hM : zMt[mi]? = some (y, b, mL, ret, o, ini)) (hf : zfl o idx = some (k, cs)) (hp : pc + 3 = pc') (ha : w.1 a = some (.inr (ci, fs))) (hc : ci ∈ cs) (hl : k < fs.length) (hv : zokv (ztyp ci k) v = true) (hn : zfin o ci k ini = true) (kk : zev d mi pc' L rr (va_up w.1 a (some (.inr (ci, fs.set k v))), w.2) r w') : zev d mi pc L (v :: .ref a :: rr) w r w' := by
  subst hp
  exact zev_put hM (zdec_ok hM hd) hf ha hc hl hv hn kk
set_option maxHeartbeats 8000000 in
theorem zr_set1_0 {d : Nat} {w1 w2 : zW} {za : Nat} {b k : Int32} {g1 : List Value} (z1 : w1.1 za = some (.inr (0, .ref 2 :: g1))) (f1 : w1.1 2 = some (.inr (1, [.ref 3, .ref 4, .ref 5, .ref 6, .int 1, .int 0, .int 1]))) (hk : zmet d 39 [.ref za, .int b, .int 0] w1 (some (.int 1)) w2) {g2 : List Value} (z2 : w2.1 za = some (.inr (0, .ref 2 :: g2))) (f2 : w2.1 2 = some (.inr (1, [.ref 3, .ref 4, .ref 5, .ref 6, .int 1, .int 0, .int 1]))) (hn : ¬ (0 : Int32) = k) : zmet (d + 1) 45 [.ref za, .int b, .int k] w1 (some (.int (-1))) w2 := by
  refine ⟨_, rfl, Nat.le_of_ble_eq_true rfl, ?_⟩
  show zev (d + 1) 45 0 [some (.ref za), some (.int b), some (.int k), none, none] [] w1 _ _
  refine zt (pc' := 1) zdQ_45_0 zm_45 rfl rfl ?_
  refine zt (pc' := 2) zdQ_45_1 zm_45 rfl rfl ?_
  show zev _ _ _ [_, _, _, _, _] _ _ _ _
  refine zt (pc' := 3) zdQ_45_2 zm_45 rfl rfl ?_
  refine zt (pc' := 5) zdQ_45_3 zm_45 rfl rfl ?_
  show zev _ _ _ [_, _, _, _, _] _ _ _ _
  refine zt (pc' := 7) zdQ_45_5 zm_45 rfl rfl ?_
  refine zt (pc' := 8) zdQ_45_7 zm_45 rfl rfl ?_
  refine zt_get (pc' := 11) zdQ_45_8 zm_45 rfl rfl z1 (by decide) rfl ?_
  refine zt_V (pc' := 14) zdQ_45_11 zm_45 rfl zq_2_63 rfl (Nat.le_of_ble_eq_true rfl) f1 zqv_2_63_1 (by decide) rfl (zr_aB f1) ?_
  refine zt_icF (tgt := 44) (pc' := 17) zdQ_45_14 zm_45 rfl rfl (zngt (by decide)) ?_
  refine zt (pc' := 18) zdQ_45_17 zm_45 rfl rfl ?_
  refine zt (pc' := 19) zdQ_45_18 zm_45 rfl rfl ?_
  refine zt (pc' := 21) zdQ_45_19 zm_45 rfl rfl ?_
  refine zt_V (pc' := 24) zdQ_45_21 zm_45 rfl zq_2_83 rfl (Nat.le_of_ble_eq_true rfl) z1 zqv_2_83_0 (by decide) rfl (hk) ?_
  refine zt_ifF (tgt := 38) (pc' := 27) zdQ_45_24 zm_45 rfl rfl (zneq (by decide)) ?_
  refine zt (pc' := 28) zdQ_45_27 zm_45 rfl rfl ?_
  refine zt (pc' := 29) zdQ_45_28 zm_45 rfl rfl ?_
  refine zt_icT (tgt := 35) (pc' := 32) zdQ_45_29 zm_45 rfl rfl (zne hn) ?_
  refine zt (pc' := 38) zdQ_45_35 zm_45 rfl rfl ?_
  show zev _ _ _ [_, _, _, _, _] _ _ _ _
  refine zt (pc' := 41) zdQ_45_38 zm_45 rfl rfl ?_
  show zev _ _ _ [_, _, _, _, _] _ _ _ _
  refine zt (pc' := 5) zdQ_45_41 zm_45 rfl rfl ?_
  refine zt (pc' := 7) zdQ_45_5 zm_45 rfl rfl ?_
  refine zt (pc' := 8) zdQ_45_7 zm_45 rfl rfl ?_
  refine zt_get (pc' := 11) zdQ_45_8 zm_45 rfl rfl z2 (by decide) rfl ?_
  refine zt_V (pc' := 14) zdQ_45_11 zm_45 rfl zq_2_63 rfl (Nat.le_of_ble_eq_true rfl) f2 zqv_2_63_1 (by decide) rfl (zr_aB f2) ?_
  refine zt_icT (tgt := 44) (pc' := 17) zdQ_45_14 zm_45 rfl rfl (zgt (by decide)) ?_
  refine zt (pc' := 45) zdQ_45_44 zm_45 rfl rfl ?_
  exact zte zdQ_45_45 zm_45 rfl
theorem zr_set0_0 {d : Nat} {w1 w2 : zW} {za : Nat} {b k : Int32} {g1 : List Value} (z1 : w1.1 za = some (.inr (0, .ref 2 :: g1))) (f1 : w1.1 2 = some (.inr (1, [.ref 3, .ref 4, .ref 5, .ref 6, .int 1, .int 0, .int 1]))) (hk : zmet d 39 [.ref za, .int b, .int 0] w1 (some (.int 0)) w2) {g2 : List Value} (z2 : w2.1 za = some (.inr (0, .ref 2 :: g2))) (f2 : w2.1 2 = some (.inr (1, [.ref 3, .ref 4, .ref 5, .ref 6, .int 1, .int 0, .int 1]))) : zmet (d + 1) 45 [.ref za, .int b, .int k] w1 (some (.int (-1))) w2 := by
  refine ⟨_, rfl, Nat.le_of_ble_eq_true rfl, ?_⟩
  show zev (d + 1) 45 0 [some (.ref za), some (.int b), some (.int k), none, none] [] w1 _ _
  refine zt (pc' := 1) zdQ_45_0 zm_45 rfl rfl ?_
  refine zt (pc' := 2) zdQ_45_1 zm_45 rfl rfl ?_
  show zev _ _ _ [_, _, _, _, _] _ _ _ _
  refine zt (pc' := 3) zdQ_45_2 zm_45 rfl rfl ?_
  refine zt (pc' := 5) zdQ_45_3 zm_45 rfl rfl ?_
  show zev _ _ _ [_, _, _, _, _] _ _ _ _
  refine zt (pc' := 7) zdQ_45_5 zm_45 rfl rfl ?_
  refine zt (pc' := 8) zdQ_45_7 zm_45 rfl rfl ?_
  refine zt_get (pc' := 11) zdQ_45_8 zm_45 rfl rfl z1 (by decide) rfl ?_
  refine zt_V (pc' := 14) zdQ_45_11 zm_45 rfl zq_2_63 rfl (Nat.le_of_ble_eq_true rfl) f1 zqv_2_63_1 (by decide) rfl (zr_aB f1) ?_
  refine zt_icF (tgt := 44) (pc' := 17) zdQ_45_14 zm_45 rfl rfl (zngt (by decide)) ?_
  refine zt (pc' := 18) zdQ_45_17 zm_45 rfl rfl ?_
  refine zt (pc' := 19) zdQ_45_18 zm_45 rfl rfl ?_
  refine zt (pc' := 21) zdQ_45_19 zm_45 rfl rfl ?_
  refine zt_V (pc' := 24) zdQ_45_21 zm_45 rfl zq_2_83 rfl (Nat.le_of_ble_eq_true rfl) z1 zqv_2_83_0 (by decide) rfl (hk) ?_
  refine zt_ifT (tgt := 38) (pc' := 27) zdQ_45_24 zm_45 rfl rfl (zeq rfl) ?_
  refine zt (pc' := 41) zdQ_45_38 zm_45 rfl rfl ?_
  show zev _ _ _ [_, _, _, _, _] _ _ _ _
  refine zt (pc' := 5) zdQ_45_41 zm_45 rfl rfl ?_
  refine zt (pc' := 7) zdQ_45_5 zm_45 rfl rfl ?_
  refine zt (pc' := 8) zdQ_45_7 zm_45 rfl rfl ?_
  refine zt_get (pc' := 11) zdQ_45_8 zm_45 rfl rfl z2 (by decide) rfl ?_
  refine zt_V (pc' := 14) zdQ_45_11 zm_45 rfl zq_2_63 rfl (Nat.le_of_ble_eq_true rfl) f2 zqv_2_63_1 (by decide) rfl (zr_aB f2) ?_
  refine zt_icT (tgt := 44) (pc' := 17) zdQ_45_14 zm_45 rfl rfl (zgt (by decide)) ?_
  refine zt (pc' := 45) zdQ_45_44 zm_45 rfl rfl ?_
  exact zte zdQ_45_45 zm_45 rfl
theorem zr_part_0 {d : Nat} {w1 w2 : zW} {za : Nat} {k : Int32} {g1 : List Value} (z1 : w1.1 za = some (.inr (0, .ref 2 :: g1))) (hg : zmet d 29 [.ref za] w1 none w2) {g2 : List Value} (z2 : w2.1 za = some (.inr (0, .ref 2 :: g2))) (f2 : w2.1 2 = some (.inr (1, [.ref 3, .ref 4, .ref 5, .ref 6, .int 1, .int 0, .int 1]))) : zmet (d + 1) 42 [.ref za, .int k] w1 (some (.int (-1))) w2 := by
  refine ⟨_, rfl, Nat.le_of_ble_eq_true rfl, ?_⟩
  show zev (d + 1) 42 0 [some (.ref za), some (.int k), none, none] [] w1 _ _
  refine zt (pc' := 1) zdQ_42_0 zm_42 rfl rfl ?_
  refine zt_V (pc' := 4) zdQ_42_1 zm_42 rfl zq_2_87 rfl (Nat.le_of_ble_eq_true rfl) z1 zqv_2_87_0 (by decide) rfl (hg) ?_
  refine zt (pc' := 5) zdQ_42_4 zm_42 rfl rfl ?_
  refine zt (pc' := 6) zdQ_42_5 zm_42 rfl rfl ?_
  show zev _ _ _ [_, _, _, _] _ _ _ _
  refine zt (pc' := 7) zdQ_42_6 zm_42 rfl rfl ?_
  refine zt (pc' := 8) zdQ_42_7 zm_42 rfl rfl ?_
  show zev _ _ _ [_, _, _, _] _ _ _ _
  refine zt (pc' := 9) zdQ_42_8 zm_42 rfl rfl ?_
  refine zt (pc' := 10) zdQ_42_9 zm_42 rfl rfl ?_
  refine zt_get (pc' := 13) zdQ_42_10 zm_42 rfl rfl z2 (by decide) rfl ?_
  refine zt_get (pc' := 16) zdQ_42_13 zm_42 rfl rfl f2 (by decide) rfl ?_
  refine zt_icT (tgt := 48) (pc' := 19) zdQ_42_16 zm_42 rfl rfl (zge (by decide)) ?_
  refine zt (pc' := 49) zdQ_42_48 zm_42 rfl rfl ?_
  exact zte zdQ_42_49 zm_42 rfl
theorem zr_toldS_0 {w1 w2 : zW} {za : Nat} {s b k v : Int32} (hm : zmet 39 91 [.ref 1, .int s] zx4 (some (.ref za)) w1) {g1 : List Value} (z1 : w1.1 za = some (.inr (0, .ref 2 :: g1))) (h0 : ¬ b < 0) (h7 : b < 7) (h4 : ¬ b = 4) (hs : zmet 39 45 [.ref za, .int b, .int k] w1 (some (.int v)) w2) : zmet (40) 99 [.ref 1, .int s, .int b, .int k] zx4 (some (.int v)) w2 := by
  refine ⟨_, rfl, Nat.le_of_ble_eq_true rfl, ?_⟩
  show zev (40) 99 0 [some (.ref 1), some (.int s), some (.int b), some (.int k), none] [] zx4 _ _
  refine zt (pc' := 1) zdQ_99_0 zm_99 rfl rfl ?_
  refine zt (pc' := 2) zdQ_99_1 zm_99 rfl rfl ?_
  refine zt_V (pc' := 5) zdQ_99_2 zm_99 rfl zq_6_82 rfl (Nat.le_of_ble_eq_true rfl) zx4_1 zqv_6_82_4 (by decide) rfl (hm) ?_
  refine zt (pc' := 7) zdQ_99_5 zm_99 rfl rfl ?_
  show zev _ _ _ [_, _, _, _, _] _ _ _ _
  refine zt (pc' := 9) zdQ_99_7 zm_99 rfl rfl ?_
  refine zt (pc' := 12) zdQ_99_9 zm_99 rfl rfl ?_
  refine zt (pc' := 13) zdQ_99_12 zm_99 rfl rfl ?_
  refine zt_ifF (tgt := 22) (pc' := 16) zdQ_99_13 zm_99 rfl rfl (znlt h0) ?_
  refine zt (pc' := 17) zdQ_99_16 zm_99 rfl rfl ?_
  refine zt (pc' := 19) zdQ_99_17 zm_99 rfl rfl ?_
  refine zt_icT (tgt := 25) (pc' := 22) zdQ_99_19 zm_99 rfl rfl (zlt h7) ?_
  refine zt (pc' := 26) zdQ_99_25 zm_99 rfl rfl ?_
  refine zt (pc' := 27) zdQ_99_26 zm_99 rfl rfl ?_
  refine zt_icT (tgt := 39) (pc' := 30) zdQ_99_27 zm_99 rfl rfl (zne h4) ?_
  refine zt (pc' := 41) zdQ_99_39 zm_99 rfl rfl ?_
  refine zt (pc' := 42) zdQ_99_41 zm_99 rfl rfl ?_
  refine zt (pc' := 43) zdQ_99_42 zm_99 rfl rfl ?_
  refine zt_V (pc' := 46) zdQ_99_43 zm_99 rfl zq_6_116 rfl (Nat.le_of_ble_eq_true rfl) z1 zqv_6_116_0 (by decide) rfl (hs) ?_
  exact zte zdQ_99_46 zm_99 rfl
theorem zr_toldP_0 {w1 w2 : zW} {za : Nat} {s k v : Int32} (hm : zmet 39 91 [.ref 1, .int s] zx4 (some (.ref za)) w1) {g1 : List Value} (z1 : w1.1 za = some (.inr (0, .ref 2 :: g1))) (hs : zmet 39 42 [.ref za, .int k] w1 (some (.int v)) w2) : zmet (40) 99 [.ref 1, .int s, .int 4, .int k] zx4 (some (.int v)) w2 := by
  refine ⟨_, rfl, Nat.le_of_ble_eq_true rfl, ?_⟩
  show zev (40) 99 0 [some (.ref 1), some (.int s), some (.int 4), some (.int k), none] [] zx4 _ _
  refine zt (pc' := 1) zdQ_99_0 zm_99 rfl rfl ?_
  refine zt (pc' := 2) zdQ_99_1 zm_99 rfl rfl ?_
  refine zt_V (pc' := 5) zdQ_99_2 zm_99 rfl zq_6_82 rfl (Nat.le_of_ble_eq_true rfl) zx4_1 zqv_6_82_4 (by decide) rfl (hm) ?_
  refine zt (pc' := 7) zdQ_99_5 zm_99 rfl rfl ?_
  show zev _ _ _ [_, _, _, _, _] _ _ _ _
  refine zt (pc' := 9) zdQ_99_7 zm_99 rfl rfl ?_
  refine zt (pc' := 12) zdQ_99_9 zm_99 rfl rfl ?_
  refine zt (pc' := 13) zdQ_99_12 zm_99 rfl rfl ?_
  refine zt_ifF (tgt := 22) (pc' := 16) zdQ_99_13 zm_99 rfl rfl (znlt (by decide)) ?_
  refine zt (pc' := 17) zdQ_99_16 zm_99 rfl rfl ?_
  refine zt (pc' := 19) zdQ_99_17 zm_99 rfl rfl ?_
  refine zt_icT (tgt := 25) (pc' := 22) zdQ_99_19 zm_99 rfl rfl (zlt (by decide)) ?_
  refine zt (pc' := 26) zdQ_99_25 zm_99 rfl rfl ?_
  refine zt (pc' := 27) zdQ_99_26 zm_99 rfl rfl ?_
  refine zt_icF (tgt := 39) (pc' := 30) zdQ_99_27 zm_99 rfl rfl (znne rfl) ?_
  refine zt (pc' := 32) zdQ_99_30 zm_99 rfl rfl ?_
  refine zt (pc' := 33) zdQ_99_32 zm_99 rfl rfl ?_
  refine zt_V (pc' := 36) zdQ_99_33 zm_99 rfl zq_6_113 rfl (Nat.le_of_ble_eq_true rfl) z1 zqv_6_113_0 (by decide) rfl (hs) ?_
  refine zt (pc' := 46) zdQ_99_36 zm_99 rfl rfl ?_
  exact zte zdQ_99_46 zm_99 rfl
set_option maxHeartbeats 8000000 in
theorem zr_clA_0 {d : Nat} {w1 w2 w3 : zW} {za : Nat} {k : Int32} {g1 : List Value} (z1 : w1.1 za = some (.inr (0, .ref 2 :: g1))) (f1 : w1.1 2 = some (.inr (1, [.ref 3, .ref 4, .ref 5, .ref 6, .int 1, .int 0, .int 1]))) {g2 : List Value} (z2 : w2.1 za = some (.inr (0, .ref 2 :: g2))) (f2 : w2.1 2 = some (.inr (1, [.ref 3, .ref 4, .ref 5, .ref 6, .int 1, .int 0, .int 1]))) {g3 : List Value} (z3 : w3.1 za = some (.inr (0, .ref 2 :: g3))) (f3 : w3.1 2 = some (.inr (1, [.ref 3, .ref 4, .ref 5, .ref 6, .int 1, .int 0, .int 1]))) (h0 : zmet d 36 [.ref za, .int 0] w1 (some (.int 0)) w2) (h1 : zmet d 36 [.ref za, .int 1] w2 (some (.int 0)) w3) : zmet (d + 1) 26 [.ref za, .int k] w1 (some (.int (-1))) w3 := by
  refine ⟨_, rfl, Nat.le_of_ble_eq_true rfl, ?_⟩
  show zev (d + 1) 26 0 [some (.ref za), some (.int k), none, none] [] w1 _ _
  refine zt (pc' := 1) zdQ_26_0 zm_26 rfl rfl ?_
  refine zt (pc' := 2) zdQ_26_1 zm_26 rfl rfl ?_
  show zev _ _ _ [_, _, _, _] _ _ _ _
  refine zt (pc' := 3) zdQ_26_2 zm_26 rfl rfl ?_
  refine zt (pc' := 4) zdQ_26_3 zm_26 rfl rfl ?_
  show zev _ _ _ [_, _, _, _] _ _ _ _
  refine zt (pc' := 5) zdQ_26_4 zm_26 rfl rfl ?_
  refine zt (pc' := 6) zdQ_26_5 zm_26 rfl rfl ?_
  refine zt_get (pc' := 9) zdQ_26_6 zm_26 rfl rfl z1 (by decide) rfl ?_
  refine zt_V (pc' := 12) zdQ_26_9 zm_26 rfl zq_2_112 rfl (Nat.le_of_ble_eq_true rfl) f1 zqv_2_112_1 (by decide) rfl (zr_aJ f1) ?_
  refine zt_icF (tgt := 39) (pc' := 15) zdQ_26_12 zm_26 rfl rfl (zngt (by decide)) ?_
  refine zt (pc' := 16) zdQ_26_15 zm_26 rfl rfl ?_
  refine zt (pc' := 17) zdQ_26_16 zm_26 rfl rfl ?_
  refine zt_V (pc' := 20) zdQ_26_17 zm_26 rfl zq_2_115 rfl (Nat.le_of_ble_eq_true rfl) z1 zqv_2_115_0 (by decide) rfl (h0) ?_
  refine zt_ifT (tgt := 33) (pc' := 23) zdQ_26_20 zm_26 rfl rfl (zeq rfl) ?_
  refine zt (pc' := 36) zdQ_26_33 zm_26 rfl rfl ?_
  show zev _ _ _ [_, _, _, _] _ _ _ _
  refine zt (pc' := 4) zdQ_26_36 zm_26 rfl rfl ?_
  refine zt (pc' := 5) zdQ_26_4 zm_26 rfl rfl ?_
  refine zt (pc' := 6) zdQ_26_5 zm_26 rfl rfl ?_
  refine zt_get (pc' := 9) zdQ_26_6 zm_26 rfl rfl z2 (by decide) rfl ?_
  refine zt_V (pc' := 12) zdQ_26_9 zm_26 rfl zq_2_112 rfl (Nat.le_of_ble_eq_true rfl) f2 zqv_2_112_1 (by decide) rfl (zr_aJ f2) ?_
  refine zt_icF (tgt := 39) (pc' := 15) zdQ_26_12 zm_26 rfl rfl (zngt (by decide)) ?_
  refine zt (pc' := 16) zdQ_26_15 zm_26 rfl rfl ?_
  refine zt (pc' := 17) zdQ_26_16 zm_26 rfl rfl ?_
  refine zt_V (pc' := 20) zdQ_26_17 zm_26 rfl zq_2_115 rfl (Nat.le_of_ble_eq_true rfl) z2 zqv_2_115_0 (by decide) rfl (h1) ?_
  refine zt_ifT (tgt := 33) (pc' := 23) zdQ_26_20 zm_26 rfl rfl (zeq rfl) ?_
  refine zt (pc' := 36) zdQ_26_33 zm_26 rfl rfl ?_
  show zev _ _ _ [_, _, _, _] _ _ _ _
  refine zt (pc' := 4) zdQ_26_36 zm_26 rfl rfl ?_
  refine zt (pc' := 5) zdQ_26_4 zm_26 rfl rfl ?_
  refine zt (pc' := 6) zdQ_26_5 zm_26 rfl rfl ?_
  refine zt_get (pc' := 9) zdQ_26_6 zm_26 rfl rfl z3 (by decide) rfl ?_
  refine zt_V (pc' := 12) zdQ_26_9 zm_26 rfl zq_2_112 rfl (Nat.le_of_ble_eq_true rfl) f3 zqv_2_112_1 (by decide) rfl (zr_aJ f3) ?_
  refine zt_icT (tgt := 39) (pc' := 15) zdQ_26_12 zm_26 rfl rfl (zgt (by decide)) ?_
  refine zt (pc' := 40) zdQ_26_39 zm_26 rfl rfl ?_
  exact zte zdQ_26_40 zm_26 rfl
theorem zr_cl_0 {w1 w2 w3 : zW} {za : Nat} {s k v : Int32} (hm : zmet 39 91 [.ref 1, .int s] zx4 (some (.ref za)) w1) (k1 : w1.1 1 = some (.inr (4, [.ref 2, .ref 7, .ref 8]))) (f1 : w1.1 2 = some (.inr (1, [.ref 3, .ref 4, .ref 5, .ref 6, .int 1, .int 0, .int 1]))) {g1 : List Value} (z1 : w1.1 za = some (.inr (0, .ref 2 :: g1))) (hl : zmet 39 4 [.ref za, .int 0] w1 none w2) {g2 : List Value} (z2 : w2.1 za = some (.inr (0, .ref 2 :: g2))) (hc : zmet 39 26 [.ref za, .int k] w2 (some (.int v)) w3) : zmet (40) 77 [.ref 1, .int s, .int k] zx4 (some (.int v)) w3 := by
  refine ⟨_, rfl, Nat.le_of_ble_eq_true rfl, ?_⟩
  show zev (40) 77 0 [some (.ref 1), some (.int s), some (.int k), none] [] zx4 _ _
  refine zt (pc' := 1) zdQ_77_0 zm_77 rfl rfl ?_
  refine zt (pc' := 2) zdQ_77_1 zm_77 rfl rfl ?_
  refine zt_V (pc' := 5) zdQ_77_2 zm_77 rfl zq_6_82 rfl (Nat.le_of_ble_eq_true rfl) zx4_1 zqv_6_82_4 (by decide) rfl (hm) ?_
  refine zt (pc' := 6) zdQ_77_5 zm_77 rfl rfl ?_
  show zev _ _ _ [_, _, _, _] _ _ _ _
  refine zt (pc' := 7) zdQ_77_6 zm_77 rfl rfl ?_
  refine zt (pc' := 13) zdQ_77_7 zm_77 rfl rfl ?_
  refine zt (pc' := 14) zdQ_77_13 zm_77 rfl rfl ?_
  refine zt (pc' := 15) zdQ_77_14 zm_77 rfl rfl ?_
  refine zt_get (pc' := 18) zdQ_77_15 zm_77 rfl rfl k1 (by decide) rfl ?_
  refine zt_V (pc' := 21) zdQ_77_18 zm_77 rfl zq_6_122 rfl (Nat.le_of_ble_eq_true rfl) f1 zqv_6_122_1 (by decide) rfl (zr_aB f1) ?_
  refine zt_V (pc' := 24) zdQ_77_21 zm_77 rfl zq_6_95 rfl (Nat.le_of_ble_eq_true rfl) z1 zqv_6_95_0 (by decide) rfl (hl) ?_
  refine zt (pc' := 25) zdQ_77_24 zm_77 rfl rfl ?_
  refine zt (pc' := 26) zdQ_77_25 zm_77 rfl rfl ?_
  refine zt_V (pc' := 29) zdQ_77_26 zm_77 rfl zq_6_125 rfl (Nat.le_of_ble_eq_true rfl) z2 zqv_6_125_0 (by decide) rfl (hc) ?_
  exact zte zdQ_77_29 zm_77 rfl
set_option maxHeartbeats 8000000 in
theorem zr_set1_2 {d : Nat} {w1 w2 : zW} {za : Nat} {b k : Int32} {g1 : List Value} (z1 : w1.1 za = some (.inr (2, .ref 2 :: g1))) (f1 : w1.1 2 = some (.inr (1, [.ref 3, .ref 4, .ref 5, .ref 6, .int 1, .int 0, .int 1]))) (hk : zmet d 39 [.ref za, .int b, .int 0] w1 (some (.int 1)) w2) {g2 : List Value} (z2 : w2.1 za = some (.inr (2, .ref 2 :: g2))) (f2 : w2.1 2 = some (.inr (1, [.ref 3, .ref 4, .ref 5, .ref 6, .int 1, .int 0, .int 1]))) (hn : ¬ (0 : Int32) = k) : zmet (d + 1) 45 [.ref za, .int b, .int k] w1 (some (.int (-1))) w2 := by
  refine ⟨_, rfl, Nat.le_of_ble_eq_true rfl, ?_⟩
  show zev (d + 1) 45 0 [some (.ref za), some (.int b), some (.int k), none, none] [] w1 _ _
  refine zt (pc' := 1) zdQ_45_0 zm_45 rfl rfl ?_
  refine zt (pc' := 2) zdQ_45_1 zm_45 rfl rfl ?_
  show zev _ _ _ [_, _, _, _, _] _ _ _ _
  refine zt (pc' := 3) zdQ_45_2 zm_45 rfl rfl ?_
  refine zt (pc' := 5) zdQ_45_3 zm_45 rfl rfl ?_
  show zev _ _ _ [_, _, _, _, _] _ _ _ _
  refine zt (pc' := 7) zdQ_45_5 zm_45 rfl rfl ?_
  refine zt (pc' := 8) zdQ_45_7 zm_45 rfl rfl ?_
  refine zt_get (pc' := 11) zdQ_45_8 zm_45 rfl rfl z1 (by decide) rfl ?_
  refine zt_V (pc' := 14) zdQ_45_11 zm_45 rfl zq_2_63 rfl (Nat.le_of_ble_eq_true rfl) f1 zqv_2_63_1 (by decide) rfl (zr_aB f1) ?_
  refine zt_icF (tgt := 44) (pc' := 17) zdQ_45_14 zm_45 rfl rfl (zngt (by decide)) ?_
  refine zt (pc' := 18) zdQ_45_17 zm_45 rfl rfl ?_
  refine zt (pc' := 19) zdQ_45_18 zm_45 rfl rfl ?_
  refine zt (pc' := 21) zdQ_45_19 zm_45 rfl rfl ?_
  refine zt_V (pc' := 24) zdQ_45_21 zm_45 rfl zq_2_83 rfl (Nat.le_of_ble_eq_true rfl) z1 zqv_2_83_2 (by decide) rfl (hk) ?_
  refine zt_ifF (tgt := 38) (pc' := 27) zdQ_45_24 zm_45 rfl rfl (zneq (by decide)) ?_
  refine zt (pc' := 28) zdQ_45_27 zm_45 rfl rfl ?_
  refine zt (pc' := 29) zdQ_45_28 zm_45 rfl rfl ?_
  refine zt_icT (tgt := 35) (pc' := 32) zdQ_45_29 zm_45 rfl rfl (zne hn) ?_
  refine zt (pc' := 38) zdQ_45_35 zm_45 rfl rfl ?_
  show zev _ _ _ [_, _, _, _, _] _ _ _ _
  refine zt (pc' := 41) zdQ_45_38 zm_45 rfl rfl ?_
  show zev _ _ _ [_, _, _, _, _] _ _ _ _
  refine zt (pc' := 5) zdQ_45_41 zm_45 rfl rfl ?_
  refine zt (pc' := 7) zdQ_45_5 zm_45 rfl rfl ?_
  refine zt (pc' := 8) zdQ_45_7 zm_45 rfl rfl ?_
  refine zt_get (pc' := 11) zdQ_45_8 zm_45 rfl rfl z2 (by decide) rfl ?_
  refine zt_V (pc' := 14) zdQ_45_11 zm_45 rfl zq_2_63 rfl (Nat.le_of_ble_eq_true rfl) f2 zqv_2_63_1 (by decide) rfl (zr_aB f2) ?_
  refine zt_icT (tgt := 44) (pc' := 17) zdQ_45_14 zm_45 rfl rfl (zgt (by decide)) ?_
  refine zt (pc' := 45) zdQ_45_44 zm_45 rfl rfl ?_
  exact zte zdQ_45_45 zm_45 rfl
theorem zr_set0_2 {d : Nat} {w1 w2 : zW} {za : Nat} {b k : Int32} {g1 : List Value} (z1 : w1.1 za = some (.inr (2, .ref 2 :: g1))) (f1 : w1.1 2 = some (.inr (1, [.ref 3, .ref 4, .ref 5, .ref 6, .int 1, .int 0, .int 1]))) (hk : zmet d 39 [.ref za, .int b, .int 0] w1 (some (.int 0)) w2) {g2 : List Value} (z2 : w2.1 za = some (.inr (2, .ref 2 :: g2))) (f2 : w2.1 2 = some (.inr (1, [.ref 3, .ref 4, .ref 5, .ref 6, .int 1, .int 0, .int 1]))) : zmet (d + 1) 45 [.ref za, .int b, .int k] w1 (some (.int (-1))) w2 := by
  refine ⟨_, rfl, Nat.le_of_ble_eq_true rfl, ?_⟩
  show zev (d + 1) 45 0 [some (.ref za), some (.int b), some (.int k), none, none] [] w1 _ _
  refine zt (pc' := 1) zdQ_45_0 zm_45 rfl rfl ?_
  refine zt (pc' := 2) zdQ_45_1 zm_45 rfl rfl ?_
  show zev _ _ _ [_, _, _, _, _] _ _ _ _
  refine zt (pc' := 3) zdQ_45_2 zm_45 rfl rfl ?_
  refine zt (pc' := 5) zdQ_45_3 zm_45 rfl rfl ?_
  show zev _ _ _ [_, _, _, _, _] _ _ _ _
  refine zt (pc' := 7) zdQ_45_5 zm_45 rfl rfl ?_
  refine zt (pc' := 8) zdQ_45_7 zm_45 rfl rfl ?_
  refine zt_get (pc' := 11) zdQ_45_8 zm_45 rfl rfl z1 (by decide) rfl ?_
  refine zt_V (pc' := 14) zdQ_45_11 zm_45 rfl zq_2_63 rfl (Nat.le_of_ble_eq_true rfl) f1 zqv_2_63_1 (by decide) rfl (zr_aB f1) ?_
  refine zt_icF (tgt := 44) (pc' := 17) zdQ_45_14 zm_45 rfl rfl (zngt (by decide)) ?_
  refine zt (pc' := 18) zdQ_45_17 zm_45 rfl rfl ?_
  refine zt (pc' := 19) zdQ_45_18 zm_45 rfl rfl ?_
  refine zt (pc' := 21) zdQ_45_19 zm_45 rfl rfl ?_
  refine zt_V (pc' := 24) zdQ_45_21 zm_45 rfl zq_2_83 rfl (Nat.le_of_ble_eq_true rfl) z1 zqv_2_83_2 (by decide) rfl (hk) ?_
  refine zt_ifT (tgt := 38) (pc' := 27) zdQ_45_24 zm_45 rfl rfl (zeq rfl) ?_
  refine zt (pc' := 41) zdQ_45_38 zm_45 rfl rfl ?_
  show zev _ _ _ [_, _, _, _, _] _ _ _ _
  refine zt (pc' := 5) zdQ_45_41 zm_45 rfl rfl ?_
  refine zt (pc' := 7) zdQ_45_5 zm_45 rfl rfl ?_
  refine zt (pc' := 8) zdQ_45_7 zm_45 rfl rfl ?_
  refine zt_get (pc' := 11) zdQ_45_8 zm_45 rfl rfl z2 (by decide) rfl ?_
  refine zt_V (pc' := 14) zdQ_45_11 zm_45 rfl zq_2_63 rfl (Nat.le_of_ble_eq_true rfl) f2 zqv_2_63_1 (by decide) rfl (zr_aB f2) ?_
  refine zt_icT (tgt := 44) (pc' := 17) zdQ_45_14 zm_45 rfl rfl (zgt (by decide)) ?_
  refine zt (pc' := 45) zdQ_45_44 zm_45 rfl rfl ?_
  exact zte zdQ_45_45 zm_45 rfl
theorem zr_part_2 {d : Nat} {w1 w2 : zW} {za : Nat} {k : Int32} {g1 : List Value} (z1 : w1.1 za = some (.inr (2, .ref 2 :: g1))) (hg : zmet d 29 [.ref za] w1 none w2) {g2 : List Value} (z2 : w2.1 za = some (.inr (2, .ref 2 :: g2))) (f2 : w2.1 2 = some (.inr (1, [.ref 3, .ref 4, .ref 5, .ref 6, .int 1, .int 0, .int 1]))) : zmet (d + 1) 42 [.ref za, .int k] w1 (some (.int (-1))) w2 := by
  refine ⟨_, rfl, Nat.le_of_ble_eq_true rfl, ?_⟩
  show zev (d + 1) 42 0 [some (.ref za), some (.int k), none, none] [] w1 _ _
  refine zt (pc' := 1) zdQ_42_0 zm_42 rfl rfl ?_
  refine zt_V (pc' := 4) zdQ_42_1 zm_42 rfl zq_2_87 rfl (Nat.le_of_ble_eq_true rfl) z1 zqv_2_87_2 (by decide) rfl (hg) ?_
  refine zt (pc' := 5) zdQ_42_4 zm_42 rfl rfl ?_
  refine zt (pc' := 6) zdQ_42_5 zm_42 rfl rfl ?_
  show zev _ _ _ [_, _, _, _] _ _ _ _
  refine zt (pc' := 7) zdQ_42_6 zm_42 rfl rfl ?_
  refine zt (pc' := 8) zdQ_42_7 zm_42 rfl rfl ?_
  show zev _ _ _ [_, _, _, _] _ _ _ _
  refine zt (pc' := 9) zdQ_42_8 zm_42 rfl rfl ?_
  refine zt (pc' := 10) zdQ_42_9 zm_42 rfl rfl ?_
  refine zt_get (pc' := 13) zdQ_42_10 zm_42 rfl rfl z2 (by decide) rfl ?_
  refine zt_get (pc' := 16) zdQ_42_13 zm_42 rfl rfl f2 (by decide) rfl ?_
  refine zt_icT (tgt := 48) (pc' := 19) zdQ_42_16 zm_42 rfl rfl (zge (by decide)) ?_
  refine zt (pc' := 49) zdQ_42_48 zm_42 rfl rfl ?_
  exact zte zdQ_42_49 zm_42 rfl
theorem zr_toldS_2 {w1 w2 : zW} {za : Nat} {s b k v : Int32} (hm : zmet 39 91 [.ref 1, .int s] zx4 (some (.ref za)) w1) {g1 : List Value} (z1 : w1.1 za = some (.inr (2, .ref 2 :: g1))) (h0 : ¬ b < 0) (h7 : b < 7) (h4 : ¬ b = 4) (hs : zmet 39 45 [.ref za, .int b, .int k] w1 (some (.int v)) w2) : zmet (40) 99 [.ref 1, .int s, .int b, .int k] zx4 (some (.int v)) w2 := by
  refine ⟨_, rfl, Nat.le_of_ble_eq_true rfl, ?_⟩
  show zev (40) 99 0 [some (.ref 1), some (.int s), some (.int b), some (.int k), none] [] zx4 _ _
  refine zt (pc' := 1) zdQ_99_0 zm_99 rfl rfl ?_
  refine zt (pc' := 2) zdQ_99_1 zm_99 rfl rfl ?_
  refine zt_V (pc' := 5) zdQ_99_2 zm_99 rfl zq_6_82 rfl (Nat.le_of_ble_eq_true rfl) zx4_1 zqv_6_82_4 (by decide) rfl (hm) ?_
  refine zt (pc' := 7) zdQ_99_5 zm_99 rfl rfl ?_
  show zev _ _ _ [_, _, _, _, _] _ _ _ _
  refine zt (pc' := 9) zdQ_99_7 zm_99 rfl rfl ?_
  refine zt (pc' := 12) zdQ_99_9 zm_99 rfl rfl ?_
  refine zt (pc' := 13) zdQ_99_12 zm_99 rfl rfl ?_
  refine zt_ifF (tgt := 22) (pc' := 16) zdQ_99_13 zm_99 rfl rfl (znlt h0) ?_
  refine zt (pc' := 17) zdQ_99_16 zm_99 rfl rfl ?_
  refine zt (pc' := 19) zdQ_99_17 zm_99 rfl rfl ?_
  refine zt_icT (tgt := 25) (pc' := 22) zdQ_99_19 zm_99 rfl rfl (zlt h7) ?_
  refine zt (pc' := 26) zdQ_99_25 zm_99 rfl rfl ?_
  refine zt (pc' := 27) zdQ_99_26 zm_99 rfl rfl ?_
  refine zt_icT (tgt := 39) (pc' := 30) zdQ_99_27 zm_99 rfl rfl (zne h4) ?_
  refine zt (pc' := 41) zdQ_99_39 zm_99 rfl rfl ?_
  refine zt (pc' := 42) zdQ_99_41 zm_99 rfl rfl ?_
  refine zt (pc' := 43) zdQ_99_42 zm_99 rfl rfl ?_
  refine zt_V (pc' := 46) zdQ_99_43 zm_99 rfl zq_6_116 rfl (Nat.le_of_ble_eq_true rfl) z1 zqv_6_116_2 (by decide) rfl (hs) ?_
  exact zte zdQ_99_46 zm_99 rfl
theorem zr_toldP_2 {w1 w2 : zW} {za : Nat} {s k v : Int32} (hm : zmet 39 91 [.ref 1, .int s] zx4 (some (.ref za)) w1) {g1 : List Value} (z1 : w1.1 za = some (.inr (2, .ref 2 :: g1))) (hs : zmet 39 42 [.ref za, .int k] w1 (some (.int v)) w2) : zmet (40) 99 [.ref 1, .int s, .int 4, .int k] zx4 (some (.int v)) w2 := by
  refine ⟨_, rfl, Nat.le_of_ble_eq_true rfl, ?_⟩
  show zev (40) 99 0 [some (.ref 1), some (.int s), some (.int 4), some (.int k), none] [] zx4 _ _
  refine zt (pc' := 1) zdQ_99_0 zm_99 rfl rfl ?_
  refine zt (pc' := 2) zdQ_99_1 zm_99 rfl rfl ?_
  refine zt_V (pc' := 5) zdQ_99_2 zm_99 rfl zq_6_82 rfl (Nat.le_of_ble_eq_true rfl) zx4_1 zqv_6_82_4 (by decide) rfl (hm) ?_
  refine zt (pc' := 7) zdQ_99_5 zm_99 rfl rfl ?_
  show zev _ _ _ [_, _, _, _, _] _ _ _ _
  refine zt (pc' := 9) zdQ_99_7 zm_99 rfl rfl ?_
  refine zt (pc' := 12) zdQ_99_9 zm_99 rfl rfl ?_
  refine zt (pc' := 13) zdQ_99_12 zm_99 rfl rfl ?_
  refine zt_ifF (tgt := 22) (pc' := 16) zdQ_99_13 zm_99 rfl rfl (znlt (by decide)) ?_
  refine zt (pc' := 17) zdQ_99_16 zm_99 rfl rfl ?_
  refine zt (pc' := 19) zdQ_99_17 zm_99 rfl rfl ?_
  refine zt_icT (tgt := 25) (pc' := 22) zdQ_99_19 zm_99 rfl rfl (zlt (by decide)) ?_
  refine zt (pc' := 26) zdQ_99_25 zm_99 rfl rfl ?_
  refine zt (pc' := 27) zdQ_99_26 zm_99 rfl rfl ?_
  refine zt_icF (tgt := 39) (pc' := 30) zdQ_99_27 zm_99 rfl rfl (znne rfl) ?_
  refine zt (pc' := 32) zdQ_99_30 zm_99 rfl rfl ?_
  refine zt (pc' := 33) zdQ_99_32 zm_99 rfl rfl ?_
  refine zt_V (pc' := 36) zdQ_99_33 zm_99 rfl zq_6_113 rfl (Nat.le_of_ble_eq_true rfl) z1 zqv_6_113_2 (by decide) rfl (hs) ?_
  refine zt (pc' := 46) zdQ_99_36 zm_99 rfl rfl ?_
  exact zte zdQ_99_46 zm_99 rfl
set_option maxHeartbeats 8000000 in
theorem zr_clA_2 {d : Nat} {w1 w2 w3 : zW} {za : Nat} {k : Int32} {g1 : List Value} (z1 : w1.1 za = some (.inr (2, .ref 2 :: g1))) (f1 : w1.1 2 = some (.inr (1, [.ref 3, .ref 4, .ref 5, .ref 6, .int 1, .int 0, .int 1]))) {g2 : List Value} (z2 : w2.1 za = some (.inr (2, .ref 2 :: g2))) (f2 : w2.1 2 = some (.inr (1, [.ref 3, .ref 4, .ref 5, .ref 6, .int 1, .int 0, .int 1]))) {g3 : List Value} (z3 : w3.1 za = some (.inr (2, .ref 2 :: g3))) (f3 : w3.1 2 = some (.inr (1, [.ref 3, .ref 4, .ref 5, .ref 6, .int 1, .int 0, .int 1]))) (h0 : zmet d 36 [.ref za, .int 0] w1 (some (.int 0)) w2) (h1 : zmet d 36 [.ref za, .int 1] w2 (some (.int 0)) w3) : zmet (d + 1) 26 [.ref za, .int k] w1 (some (.int (-1))) w3 := by
  refine ⟨_, rfl, Nat.le_of_ble_eq_true rfl, ?_⟩
  show zev (d + 1) 26 0 [some (.ref za), some (.int k), none, none] [] w1 _ _
  refine zt (pc' := 1) zdQ_26_0 zm_26 rfl rfl ?_
  refine zt (pc' := 2) zdQ_26_1 zm_26 rfl rfl ?_
  show zev _ _ _ [_, _, _, _] _ _ _ _
  refine zt (pc' := 3) zdQ_26_2 zm_26 rfl rfl ?_
  refine zt (pc' := 4) zdQ_26_3 zm_26 rfl rfl ?_
  show zev _ _ _ [_, _, _, _] _ _ _ _
  refine zt (pc' := 5) zdQ_26_4 zm_26 rfl rfl ?_
  refine zt (pc' := 6) zdQ_26_5 zm_26 rfl rfl ?_
  refine zt_get (pc' := 9) zdQ_26_6 zm_26 rfl rfl z1 (by decide) rfl ?_
  refine zt_V (pc' := 12) zdQ_26_9 zm_26 rfl zq_2_112 rfl (Nat.le_of_ble_eq_true rfl) f1 zqv_2_112_1 (by decide) rfl (zr_aJ f1) ?_
  refine zt_icF (tgt := 39) (pc' := 15) zdQ_26_12 zm_26 rfl rfl (zngt (by decide)) ?_
  refine zt (pc' := 16) zdQ_26_15 zm_26 rfl rfl ?_
  refine zt (pc' := 17) zdQ_26_16 zm_26 rfl rfl ?_
  refine zt_V (pc' := 20) zdQ_26_17 zm_26 rfl zq_2_115 rfl (Nat.le_of_ble_eq_true rfl) z1 zqv_2_115_2 (by decide) rfl (h0) ?_
  refine zt_ifT (tgt := 33) (pc' := 23) zdQ_26_20 zm_26 rfl rfl (zeq rfl) ?_
  refine zt (pc' := 36) zdQ_26_33 zm_26 rfl rfl ?_
  show zev _ _ _ [_, _, _, _] _ _ _ _
  refine zt (pc' := 4) zdQ_26_36 zm_26 rfl rfl ?_
  refine zt (pc' := 5) zdQ_26_4 zm_26 rfl rfl ?_
  refine zt (pc' := 6) zdQ_26_5 zm_26 rfl rfl ?_
  refine zt_get (pc' := 9) zdQ_26_6 zm_26 rfl rfl z2 (by decide) rfl ?_
  refine zt_V (pc' := 12) zdQ_26_9 zm_26 rfl zq_2_112 rfl (Nat.le_of_ble_eq_true rfl) f2 zqv_2_112_1 (by decide) rfl (zr_aJ f2) ?_
  refine zt_icF (tgt := 39) (pc' := 15) zdQ_26_12 zm_26 rfl rfl (zngt (by decide)) ?_
  refine zt (pc' := 16) zdQ_26_15 zm_26 rfl rfl ?_
  refine zt (pc' := 17) zdQ_26_16 zm_26 rfl rfl ?_
  refine zt_V (pc' := 20) zdQ_26_17 zm_26 rfl zq_2_115 rfl (Nat.le_of_ble_eq_true rfl) z2 zqv_2_115_2 (by decide) rfl (h1) ?_
  refine zt_ifT (tgt := 33) (pc' := 23) zdQ_26_20 zm_26 rfl rfl (zeq rfl) ?_
  refine zt (pc' := 36) zdQ_26_33 zm_26 rfl rfl ?_
  show zev _ _ _ [_, _, _, _] _ _ _ _
  refine zt (pc' := 4) zdQ_26_36 zm_26 rfl rfl ?_
  refine zt (pc' := 5) zdQ_26_4 zm_26 rfl rfl ?_
  refine zt (pc' := 6) zdQ_26_5 zm_26 rfl rfl ?_
  refine zt_get (pc' := 9) zdQ_26_6 zm_26 rfl rfl z3 (by decide) rfl ?_
  refine zt_V (pc' := 12) zdQ_26_9 zm_26 rfl zq_2_112 rfl (Nat.le_of_ble_eq_true rfl) f3 zqv_2_112_1 (by decide) rfl (zr_aJ f3) ?_
  refine zt_icT (tgt := 39) (pc' := 15) zdQ_26_12 zm_26 rfl rfl (zgt (by decide)) ?_
  refine zt (pc' := 40) zdQ_26_39 zm_26 rfl rfl ?_
  exact zte zdQ_26_40 zm_26 rfl
theorem zr_cl_2 {w1 w2 w3 : zW} {za : Nat} {s k v : Int32} (hm : zmet 39 91 [.ref 1, .int s] zx4 (some (.ref za)) w1) (k1 : w1.1 1 = some (.inr (4, [.ref 2, .ref 7, .ref 8]))) (f1 : w1.1 2 = some (.inr (1, [.ref 3, .ref 4, .ref 5, .ref 6, .int 1, .int 0, .int 1]))) {g1 : List Value} (z1 : w1.1 za = some (.inr (2, .ref 2 :: g1))) (hl : zmet 39 52 [.ref za, .int 0] w1 none w2) {g2 : List Value} (z2 : w2.1 za = some (.inr (2, .ref 2 :: g2))) (hc : zmet 39 26 [.ref za, .int k] w2 (some (.int v)) w3) : zmet (40) 77 [.ref 1, .int s, .int k] zx4 (some (.int v)) w3 := by
  refine ⟨_, rfl, Nat.le_of_ble_eq_true rfl, ?_⟩
  show zev (40) 77 0 [some (.ref 1), some (.int s), some (.int k), none] [] zx4 _ _
  refine zt (pc' := 1) zdQ_77_0 zm_77 rfl rfl ?_
  refine zt (pc' := 2) zdQ_77_1 zm_77 rfl rfl ?_
  refine zt_V (pc' := 5) zdQ_77_2 zm_77 rfl zq_6_82 rfl (Nat.le_of_ble_eq_true rfl) zx4_1 zqv_6_82_4 (by decide) rfl (hm) ?_
  refine zt (pc' := 6) zdQ_77_5 zm_77 rfl rfl ?_
  show zev _ _ _ [_, _, _, _] _ _ _ _
  refine zt (pc' := 7) zdQ_77_6 zm_77 rfl rfl ?_
  refine zt (pc' := 13) zdQ_77_7 zm_77 rfl rfl ?_
  refine zt (pc' := 14) zdQ_77_13 zm_77 rfl rfl ?_
  refine zt (pc' := 15) zdQ_77_14 zm_77 rfl rfl ?_
  refine zt_get (pc' := 18) zdQ_77_15 zm_77 rfl rfl k1 (by decide) rfl ?_
  refine zt_V (pc' := 21) zdQ_77_18 zm_77 rfl zq_6_122 rfl (Nat.le_of_ble_eq_true rfl) f1 zqv_6_122_1 (by decide) rfl (zr_aB f1) ?_
  refine zt_V (pc' := 24) zdQ_77_21 zm_77 rfl zq_6_95 rfl (Nat.le_of_ble_eq_true rfl) z1 zqv_6_95_2 (by decide) rfl (hl) ?_
  refine zt (pc' := 25) zdQ_77_24 zm_77 rfl rfl ?_
  refine zt (pc' := 26) zdQ_77_25 zm_77 rfl rfl ?_
  refine zt_V (pc' := 29) zdQ_77_26 zm_77 rfl zq_6_125 rfl (Nat.le_of_ble_eq_true rfl) z2 zqv_6_125_2 (by decide) rfl (hc) ?_
  exact zte zdQ_77_29 zm_77 rfl
set_option maxHeartbeats 8000000 in
theorem zr_rtold1 {w1 w2 : zW} {s b k : Int32} {l1 : Value} {m1 : List Value} (M1 : w1.1 9 = some (.inr (5, .int 1 :: l1 :: .int 0 :: m1))) (hS : zmet 39 138 [.ref 9, .int s] w1 (some (.int 1)) w1) (h0 : ¬ b < 0) (h6 : ¬ 6 < b) (h4 : ¬ b = 4) (hk : zmet 39 133 [.ref 9, .int s, .int b, .int 0] w1 (some (.int 1)) w2) {l2 : Value} {m2 : List Value} (M2 : w2.1 9 = some (.inr (5, .int 1 :: l2 :: .int 0 :: m2))) (hn : ¬ (0 : Int32) = k) : zmet (40) 166 [.ref 9, .int s, .int b, .int k] w1 (some (.int (-1))) w2 := by
  refine ⟨_, rfl, Nat.le_of_ble_eq_true rfl, ?_⟩
  show zev (40) 166 0 [some (.ref 9), some (.int s), some (.int b), some (.int k), none, none, none] [] w1 _ _
  refine zt (pc' := 1) zdQ_166_0 zm_166 rfl rfl ?_
  refine zt (pc' := 2) zdQ_166_1 zm_166 rfl rfl ?_
  refine zt_V (pc' := 5) zdQ_166_2 zm_166 rfl zq_7_158 rfl (Nat.le_of_ble_eq_true rfl) M1 zqv_7_158_5 (by decide) rfl (hS) ?_
  refine zt_ifF (tgt := 18) (pc' := 8) zdQ_166_5 zm_166 rfl rfl (zneq (by decide)) ?_
  refine zt (pc' := 9) zdQ_166_8 zm_166 rfl rfl ?_
  refine zt (pc' := 10) zdQ_166_9 zm_166 rfl rfl ?_
  refine zt (pc' := 12) zdQ_166_10 zm_166 rfl rfl ?_
  refine zt_S (pc' := 15) zdQ_166_12 zm_166 rfl zq_7_70 (Nat.le_of_ble_eq_true rfl) (Nat.le_of_ble_eq_true rfl) rfl (c_isIn1 h0 h6) ?_
  refine zt_ifT (tgt := 21) (pc' := 18) zdQ_166_15 zm_166 rfl rfl (zne (by decide)) ?_
  refine zt (pc' := 22) zdQ_166_21 zm_166 rfl rfl ?_
  refine zt (pc' := 23) zdQ_166_22 zm_166 rfl rfl ?_
  refine zt_icT (tgt := 33) (pc' := 26) zdQ_166_23 zm_166 rfl rfl (zne h4) ?_
  refine zt (pc' := 34) zdQ_166_33 zm_166 rfl rfl ?_
  refine zt (pc' := 36) zdQ_166_34 zm_166 rfl rfl ?_
  show zev _ _ _ [_, _, _, _, _, _, _] _ _ _ _
  refine zt (pc' := 37) zdQ_166_36 zm_166 rfl rfl ?_
  refine zt (pc' := 39) zdQ_166_37 zm_166 rfl rfl ?_
  show zev _ _ _ [_, _, _, _, _, _, _] _ _ _ _
  refine zt (pc' := 40) zdQ_166_39 zm_166 rfl rfl ?_
  refine zt (pc' := 42) zdQ_166_40 zm_166 rfl rfl ?_
  show zev _ _ _ [_, _, _, _, _, _, _] _ _ _ _
  refine zt (pc' := 44) zdQ_166_42 zm_166 rfl rfl ?_
  refine zt (pc' := 45) zdQ_166_44 zm_166 rfl rfl ?_
  refine zt_V (pc' := 48) zdQ_166_45 zm_166 rfl zq_7_151 rfl (Nat.le_of_ble_eq_true rfl) M1 zqv_7_151_5 (by decide) rfl (zr_all M1) ?_
  refine zt_icF (tgt := 91) (pc' := 51) zdQ_166_48 zm_166 rfl rfl (zngt (by decide)) ?_
  refine zt (pc' := 53) zdQ_166_51 zm_166 rfl rfl ?_
  refine zt_ifF (tgt := 91) (pc' := 56) zdQ_166_53 zm_166 rfl rfl (znge (by decide)) ?_
  refine zt (pc' := 57) zdQ_166_56 zm_166 rfl rfl ?_
  refine zt (pc' := 58) zdQ_166_57 zm_166 rfl rfl ?_
  refine zt (pc' := 59) zdQ_166_58 zm_166 rfl rfl ?_
  refine zt (pc' := 61) zdQ_166_59 zm_166 rfl rfl ?_
  refine zt_V (pc' := 64) zdQ_166_61 zm_166 rfl zq_7_206 rfl (Nat.le_of_ble_eq_true rfl) M1 zqv_7_206_5 (by decide) rfl (hk) ?_
  refine zt_ifF (tgt := 85) (pc' := 67) zdQ_166_64 zm_166 rfl rfl (zneq (by decide)) ?_
  refine zt (pc' := 69) zdQ_166_67 zm_166 rfl rfl ?_
  refine zt (pc' := 70) zdQ_166_69 zm_166 rfl rfl ?_
  refine zt_icT (tgt := 78) (pc' := 73) zdQ_166_70 zm_166 rfl rfl (zne hn) ?_
  refine zt (pc' := 80) zdQ_166_78 zm_166 rfl rfl ?_
  refine zt (pc' := 82) zdQ_166_80 zm_166 rfl rfl ?_
  show zev _ _ _ [_, _, _, _, _, _, _] _ _ _ _
  refine zt (pc' := 85) zdQ_166_82 zm_166 rfl rfl ?_
  show zev _ _ _ [_, _, _, _, _, _, _] _ _ _ _
  refine zt (pc' := 88) zdQ_166_85 zm_166 rfl rfl ?_
  show zev _ _ _ [_, _, _, _, _, _, _] _ _ _ _
  refine zt (pc' := 42) zdQ_166_88 zm_166 rfl rfl ?_
  refine zt (pc' := 44) zdQ_166_42 zm_166 rfl rfl ?_
  refine zt (pc' := 45) zdQ_166_44 zm_166 rfl rfl ?_
  refine zt_V (pc' := 48) zdQ_166_45 zm_166 rfl zq_7_151 rfl (Nat.le_of_ble_eq_true rfl) M2 zqv_7_151_5 (by decide) rfl (zr_all M2) ?_
  refine zt_icT (tgt := 91) (pc' := 51) zdQ_166_48 zm_166 rfl rfl (zgt (by decide)) ?_
  refine zt (pc' := 93) zdQ_166_91 zm_166 rfl rfl ?_
  exact zte zdQ_166_93 zm_166 rfl
set_option maxHeartbeats 8000000 in
theorem zr_rtold0 {w1 w2 : zW} {s b k : Int32} {l1 : Value} {m1 : List Value} (M1 : w1.1 9 = some (.inr (5, .int 1 :: l1 :: .int 0 :: m1))) (hS : zmet 39 138 [.ref 9, .int s] w1 (some (.int 1)) w1) (h0 : ¬ b < 0) (h6 : ¬ 6 < b) (h4 : ¬ b = 4) (hk : zmet 39 133 [.ref 9, .int s, .int b, .int 0] w1 (some (.int 0)) w2) {l2 : Value} {m2 : List Value} (M2 : w2.1 9 = some (.inr (5, .int 1 :: l2 :: .int 0 :: m2))) : zmet (40) 166 [.ref 9, .int s, .int b, .int k] w1 (some (.int (-1))) w2 := by
  refine ⟨_, rfl, Nat.le_of_ble_eq_true rfl, ?_⟩
  show zev (40) 166 0 [some (.ref 9), some (.int s), some (.int b), some (.int k), none, none, none] [] w1 _ _
  refine zt (pc' := 1) zdQ_166_0 zm_166 rfl rfl ?_
  refine zt (pc' := 2) zdQ_166_1 zm_166 rfl rfl ?_
  refine zt_V (pc' := 5) zdQ_166_2 zm_166 rfl zq_7_158 rfl (Nat.le_of_ble_eq_true rfl) M1 zqv_7_158_5 (by decide) rfl (hS) ?_
  refine zt_ifF (tgt := 18) (pc' := 8) zdQ_166_5 zm_166 rfl rfl (zneq (by decide)) ?_
  refine zt (pc' := 9) zdQ_166_8 zm_166 rfl rfl ?_
  refine zt (pc' := 10) zdQ_166_9 zm_166 rfl rfl ?_
  refine zt (pc' := 12) zdQ_166_10 zm_166 rfl rfl ?_
  refine zt_S (pc' := 15) zdQ_166_12 zm_166 rfl zq_7_70 (Nat.le_of_ble_eq_true rfl) (Nat.le_of_ble_eq_true rfl) rfl (c_isIn1 h0 h6) ?_
  refine zt_ifT (tgt := 21) (pc' := 18) zdQ_166_15 zm_166 rfl rfl (zne (by decide)) ?_
  refine zt (pc' := 22) zdQ_166_21 zm_166 rfl rfl ?_
  refine zt (pc' := 23) zdQ_166_22 zm_166 rfl rfl ?_
  refine zt_icT (tgt := 33) (pc' := 26) zdQ_166_23 zm_166 rfl rfl (zne h4) ?_
  refine zt (pc' := 34) zdQ_166_33 zm_166 rfl rfl ?_
  refine zt (pc' := 36) zdQ_166_34 zm_166 rfl rfl ?_
  show zev _ _ _ [_, _, _, _, _, _, _] _ _ _ _
  refine zt (pc' := 37) zdQ_166_36 zm_166 rfl rfl ?_
  refine zt (pc' := 39) zdQ_166_37 zm_166 rfl rfl ?_
  show zev _ _ _ [_, _, _, _, _, _, _] _ _ _ _
  refine zt (pc' := 40) zdQ_166_39 zm_166 rfl rfl ?_
  refine zt (pc' := 42) zdQ_166_40 zm_166 rfl rfl ?_
  show zev _ _ _ [_, _, _, _, _, _, _] _ _ _ _
  refine zt (pc' := 44) zdQ_166_42 zm_166 rfl rfl ?_
  refine zt (pc' := 45) zdQ_166_44 zm_166 rfl rfl ?_
  refine zt_V (pc' := 48) zdQ_166_45 zm_166 rfl zq_7_151 rfl (Nat.le_of_ble_eq_true rfl) M1 zqv_7_151_5 (by decide) rfl (zr_all M1) ?_
  refine zt_icF (tgt := 91) (pc' := 51) zdQ_166_48 zm_166 rfl rfl (zngt (by decide)) ?_
  refine zt (pc' := 53) zdQ_166_51 zm_166 rfl rfl ?_
  refine zt_ifF (tgt := 91) (pc' := 56) zdQ_166_53 zm_166 rfl rfl (znge (by decide)) ?_
  refine zt (pc' := 57) zdQ_166_56 zm_166 rfl rfl ?_
  refine zt (pc' := 58) zdQ_166_57 zm_166 rfl rfl ?_
  refine zt (pc' := 59) zdQ_166_58 zm_166 rfl rfl ?_
  refine zt (pc' := 61) zdQ_166_59 zm_166 rfl rfl ?_
  refine zt_V (pc' := 64) zdQ_166_61 zm_166 rfl zq_7_206 rfl (Nat.le_of_ble_eq_true rfl) M1 zqv_7_206_5 (by decide) rfl (hk) ?_
  refine zt_ifT (tgt := 85) (pc' := 67) zdQ_166_64 zm_166 rfl rfl (zeq rfl) ?_
  refine zt (pc' := 88) zdQ_166_85 zm_166 rfl rfl ?_
  show zev _ _ _ [_, _, _, _, _, _, _] _ _ _ _
  refine zt (pc' := 42) zdQ_166_88 zm_166 rfl rfl ?_
  refine zt (pc' := 44) zdQ_166_42 zm_166 rfl rfl ?_
  refine zt (pc' := 45) zdQ_166_44 zm_166 rfl rfl ?_
  refine zt_V (pc' := 48) zdQ_166_45 zm_166 rfl zq_7_151 rfl (Nat.le_of_ble_eq_true rfl) M2 zqv_7_151_5 (by decide) rfl (zr_all M2) ?_
  refine zt_icT (tgt := 91) (pc' := 51) zdQ_166_48 zm_166 rfl rfl (zgt (by decide)) ?_
  refine zt (pc' := 93) zdQ_166_91 zm_166 rfl rfl ?_
  exact zte zdQ_166_93 zm_166 rfl
theorem zr_rtoldP {w1 w2 : zW} {s k v : Int32} {l1 : Value} {m1 : List Value} (M1 : w1.1 9 = some (.inr (5, .int 1 :: l1 :: .int 0 :: m1))) (hS : zmet 39 138 [.ref 9, .int s] w1 (some (.int 1)) w1) (hp : zmet 39 149 [.ref 9, .int s, .int k] w1 (some (.int v)) w2) : zmet (40) 166 [.ref 9, .int s, .int 4, .int k] w1 (some (.int v)) w2 := by
  refine ⟨_, rfl, Nat.le_of_ble_eq_true rfl, ?_⟩
  show zev (40) 166 0 [some (.ref 9), some (.int s), some (.int 4), some (.int k), none, none, none] [] w1 _ _
  refine zt (pc' := 1) zdQ_166_0 zm_166 rfl rfl ?_
  refine zt (pc' := 2) zdQ_166_1 zm_166 rfl rfl ?_
  refine zt_V (pc' := 5) zdQ_166_2 zm_166 rfl zq_7_158 rfl (Nat.le_of_ble_eq_true rfl) M1 zqv_7_158_5 (by decide) rfl (hS) ?_
  refine zt_ifF (tgt := 18) (pc' := 8) zdQ_166_5 zm_166 rfl rfl (zneq (by decide)) ?_
  refine zt (pc' := 9) zdQ_166_8 zm_166 rfl rfl ?_
  refine zt (pc' := 10) zdQ_166_9 zm_166 rfl rfl ?_
  refine zt (pc' := 12) zdQ_166_10 zm_166 rfl rfl ?_
  refine zt_S (pc' := 15) zdQ_166_12 zm_166 rfl zq_7_70 (Nat.le_of_ble_eq_true rfl) (Nat.le_of_ble_eq_true rfl) rfl (c_isIn1 (by decide) (by decide)) ?_
  refine zt_ifT (tgt := 21) (pc' := 18) zdQ_166_15 zm_166 rfl rfl (zne (by decide)) ?_
  refine zt (pc' := 22) zdQ_166_21 zm_166 rfl rfl ?_
  refine zt (pc' := 23) zdQ_166_22 zm_166 rfl rfl ?_
  refine zt_icF (tgt := 33) (pc' := 26) zdQ_166_23 zm_166 rfl rfl (znne rfl) ?_
  refine zt (pc' := 27) zdQ_166_26 zm_166 rfl rfl ?_
  refine zt (pc' := 28) zdQ_166_27 zm_166 rfl rfl ?_
  refine zt (pc' := 29) zdQ_166_28 zm_166 rfl rfl ?_
  refine zt_V (pc' := 32) zdQ_166_29 zm_166 rfl zq_7_203 rfl (Nat.le_of_ble_eq_true rfl) M1 zqv_7_203_5 (by decide) rfl (hp) ?_
  exact zte zdQ_166_32 zm_166 rfl
theorem zr_rpart {d : Nat} {w1 w2 : zW} {s k : Int32} {l1 : Value} {m1 : List Value} (M1 : w1.1 9 = some (.inr (5, .int 1 :: l1 :: .int 0 :: m1))) (hf : zmet d 119 [.ref 9, .int s] w1 none w2) {l2 : Value} {m2 : List Value} (M2 : w2.1 9 = some (.inr (5, .int 1 :: l2 :: .int 0 :: m2))) (hl : m2.length = 21) : zmet (d + 1) 149 [.ref 9, .int s, .int k] w1 (some (.int (-1))) (va_up w2.1 9 (some (.inr (5, (Value.int 1 :: l2 :: .int 0 :: m2).set 18 (.int 0)))), w2.2) := by
  refine ⟨_, rfl, Nat.le_of_ble_eq_true rfl, ?_⟩
  show zev (d + 1) 149 0 [some (.ref 9), some (.int s), some (.int k), none, none, none] [] w1 _ _
  refine zt (pc' := 1) zdQ_149_0 zm_149 rfl rfl ?_
  refine zt (pc' := 2) zdQ_149_1 zm_149 rfl rfl ?_
  refine zt_V (pc' := 5) zdQ_149_2 zm_149 rfl zq_7_197 rfl (Nat.le_of_ble_eq_true rfl) M1 zqv_7_197_5 (by decide) rfl (hf) ?_
  refine zt (pc' := 6) zdQ_149_5 zm_149 rfl rfl ?_
  refine zt (pc' := 7) zdQ_149_6 zm_149 rfl rfl ?_
  show zev _ _ _ [_, _, _, _, _, _] _ _ _ _
  refine zt (pc' := 8) zdQ_149_7 zm_149 rfl rfl ?_
  refine zt (pc' := 10) zdQ_149_8 zm_149 rfl rfl ?_
  show zev _ _ _ [_, _, _, _, _, _] _ _ _ _
  refine zt (pc' := 11) zdQ_149_10 zm_149 rfl rfl ?_
  refine zt (pc' := 13) zdQ_149_11 zm_149 rfl rfl ?_
  show zev _ _ _ [_, _, _, _, _, _] _ _ _ _
  refine zt (pc' := 15) zdQ_149_13 zm_149 rfl rfl ?_
  refine zt (pc' := 16) zdQ_149_15 zm_149 rfl rfl ?_
  refine zt_get (pc' := 19) zdQ_149_16 zm_149 rfl rfl M2 (by decide) rfl ?_
  refine zt_icT (tgt := 67) (pc' := 22) zdQ_149_19 zm_149 rfl rfl (zge (by decide)) ?_
  refine zt (pc' := 68) zdQ_149_67 zm_149 rfl rfl ?_
  refine zt (pc' := 69) zdQ_149_68 zm_149 rfl rfl ?_
  refine zt_put (pc' := 72) zdQ_149_69 zm_149 rfl rfl M2 (by decide) (by simp only [List.length_cons, hl]; decide) rfl rfl ?_
  refine zt (pc' := 74) zdQ_149_72 zm_149 rfl rfl ?_
  exact zte zdQ_149_74 zm_149 rfl
set_option maxHeartbeats 8000000 in
theorem zr_rcl {w1 w2 w3 : zW} {s k : Int32} {l1 : Value} {m1 : List Value} (M1 : w1.1 9 = some (.inr (5, .int 1 :: l1 :: .int 0 :: m1))) (hS : zmet 39 138 [.ref 9, .int s] w1 (some (.int 1)) w1) (o0 : zmet 39 148 [.int 0] w1 (some (.int 0)) w2) {l2 : Value} {m2 : List Value} (M2 : w2.1 9 = some (.inr (5, .int 1 :: l2 :: .int 0 :: m2))) (o1 : zmet 39 148 [.int 1] w2 (some (.int 1)) w3) {l3 : Value} {m3 : List Value} (M3 : w3.1 9 = some (.inr (5, .int 1 :: l3 :: .int 0 :: m3))) : zmet (40) 113 [.ref 9, .int s, .int k] w1 (some (.int (-1))) w3 := by
  refine ⟨_, rfl, Nat.le_of_ble_eq_true rfl, ?_⟩
  show zev (40) 113 0 [some (.ref 9), some (.int s), some (.int k), none, none, none, none, none] [] w1 _ _
  refine zt (pc' := 1) zdQ_113_0 zm_113 rfl rfl ?_
  refine zt (pc' := 2) zdQ_113_1 zm_113 rfl rfl ?_
  refine zt_V (pc' := 5) zdQ_113_2 zm_113 rfl zq_7_158 rfl (Nat.le_of_ble_eq_true rfl) M1 zqv_7_158_5 (by decide) rfl (hS) ?_
  refine zt_ifT (tgt := 11) (pc' := 8) zdQ_113_5 zm_113 rfl rfl (zne (by decide)) ?_
  refine zt (pc' := 12) zdQ_113_11 zm_113 rfl rfl ?_
  refine zt (pc' := 13) zdQ_113_12 zm_113 rfl rfl ?_
  show zev _ _ _ [_, _, _, _, _, _, _, _] _ _ _ _
  refine zt (pc' := 14) zdQ_113_13 zm_113 rfl rfl ?_
  refine zt (pc' := 15) zdQ_113_14 zm_113 rfl rfl ?_
  refine zt_get (pc' := 18) zdQ_113_15 zm_113 rfl rfl M1 (by decide) rfl ?_
  refine zt_icF (tgt := 66) (pc' := 21) zdQ_113_18 zm_113 rfl rfl (znge (by decide)) ?_
  refine zt (pc' := 22) zdQ_113_21 zm_113 rfl rfl ?_
  refine zt (pc' := 24) zdQ_113_22 zm_113 rfl rfl ?_
  show zev _ _ _ [_, _, _, _, _, _, _, _] _ _ _ _
  refine zt (pc' := 26) zdQ_113_24 zm_113 rfl rfl ?_
  refine zt (pc' := 27) zdQ_113_26 zm_113 rfl rfl ?_
  refine zt_icT (tgt := 60) (pc' := 30) zdQ_113_27 zm_113 rfl rfl (zge (by decide)) ?_
  refine zt (pc' := 63) zdQ_113_60 zm_113 rfl rfl ?_
  show zev _ _ _ [_, _, _, _, _, _, _, _] _ _ _ _
  refine zt (pc' := 13) zdQ_113_63 zm_113 rfl rfl ?_
  refine zt (pc' := 14) zdQ_113_13 zm_113 rfl rfl ?_
  refine zt (pc' := 15) zdQ_113_14 zm_113 rfl rfl ?_
  refine zt_get (pc' := 18) zdQ_113_15 zm_113 rfl rfl M1 (by decide) rfl ?_
  refine zt_icT (tgt := 66) (pc' := 21) zdQ_113_18 zm_113 rfl rfl (zge (by decide)) ?_
  refine zt (pc' := 67) zdQ_113_66 zm_113 rfl rfl ?_
  refine zt (pc' := 68) zdQ_113_67 zm_113 rfl rfl ?_
  show zev _ _ _ [_, _, _, _, _, _, _, _] _ _ _ _
  refine zt (pc' := 69) zdQ_113_68 zm_113 rfl rfl ?_
  refine zt (pc' := 71) zdQ_113_69 zm_113 rfl rfl ?_
  show zev _ _ _ [_, _, _, _, _, _, _, _] _ _ _ _
  refine zt (pc' := 72) zdQ_113_71 zm_113 rfl rfl ?_
  refine zt (pc' := 74) zdQ_113_72 zm_113 rfl rfl ?_
  show zev _ _ _ [_, _, _, _, _, _, _, _] _ _ _ _
  refine zt (pc' := 76) zdQ_113_74 zm_113 rfl rfl ?_
  refine zt (pc' := 77) zdQ_113_76 zm_113 rfl rfl ?_
  refine zt (pc' := 78) zdQ_113_77 zm_113 rfl rfl ?_
  refine zt_get (pc' := 81) zdQ_113_78 zm_113 rfl rfl M1 (by decide) rfl ?_
  refine zt (pc' := 82) zdQ_113_81 zm_113 rfl rfl ?_
  refine zt_icF (tgt := 193) (pc' := 85) zdQ_113_82 zm_113 rfl rfl (znge (by decide)) ?_
  refine zt (pc' := 87) zdQ_113_85 zm_113 rfl rfl ?_
  refine zt_S (pc' := 90) zdQ_113_87 zm_113 rfl zq_7_126 (Nat.le_of_ble_eq_true rfl) (Nat.le_of_ble_eq_true rfl) rfl (o0) ?_
  refine zt (pc' := 91) zdQ_113_90 zm_113 rfl rfl ?_
  refine zt_icT (tgt := 107) (pc' := 94) zdQ_113_91 zm_113 rfl rfl (zle' (by decide)) ?_
  refine zt (pc' := 108) zdQ_113_107 zm_113 rfl rfl ?_
  refine zt (pc' := 110) zdQ_113_108 zm_113 rfl rfl ?_
  show zev _ _ _ [_, _, _, _, _, _, _, _] _ _ _ _
  refine zt (pc' := 111) zdQ_113_110 zm_113 rfl rfl ?_
  refine zt (pc' := 113) zdQ_113_111 zm_113 rfl rfl ?_
  show zev _ _ _ [_, _, _, _, _, _, _, _] _ _ _ _
  refine zt (pc' := 115) zdQ_113_113 zm_113 rfl rfl ?_
  refine zt (pc' := 116) zdQ_113_115 zm_113 rfl rfl ?_
  refine zt_get (pc' := 119) zdQ_113_116 zm_113 rfl rfl M2 (by decide) rfl ?_
  refine zt_icF (tgt := 165) (pc' := 122) zdQ_113_119 zm_113 rfl rfl (znge (by decide)) ?_
  refine zt (pc' := 124) zdQ_113_122 zm_113 rfl rfl ?_
  refine zt_ifT (tgt := 165) (pc' := 127) zdQ_113_124 zm_113 rfl rfl (zeq rfl) ?_
  refine zt (pc' := 167) zdQ_113_165 zm_113 rfl rfl ?_
  refine zt_ifT (tgt := 187) (pc' := 170) zdQ_113_167 zm_113 rfl rfl (zeq rfl) ?_
  refine zt (pc' := 190) zdQ_113_187 zm_113 rfl rfl ?_
  show zev _ _ _ [_, _, _, _, _, _, _, _] _ _ _ _
  refine zt (pc' := 74) zdQ_113_190 zm_113 rfl rfl ?_
  refine zt (pc' := 76) zdQ_113_74 zm_113 rfl rfl ?_
  refine zt (pc' := 77) zdQ_113_76 zm_113 rfl rfl ?_
  refine zt (pc' := 78) zdQ_113_77 zm_113 rfl rfl ?_
  refine zt_get (pc' := 81) zdQ_113_78 zm_113 rfl rfl M2 (by decide) rfl ?_
  refine zt (pc' := 82) zdQ_113_81 zm_113 rfl rfl ?_
  refine zt_icF (tgt := 193) (pc' := 85) zdQ_113_82 zm_113 rfl rfl (znge (by decide)) ?_
  refine zt (pc' := 87) zdQ_113_85 zm_113 rfl rfl ?_
  refine zt_S (pc' := 90) zdQ_113_87 zm_113 rfl zq_7_126 (Nat.le_of_ble_eq_true rfl) (Nat.le_of_ble_eq_true rfl) rfl (o1) ?_
  refine zt (pc' := 91) zdQ_113_90 zm_113 rfl rfl ?_
  refine zt_icT (tgt := 107) (pc' := 94) zdQ_113_91 zm_113 rfl rfl (zle' (by decide)) ?_
  refine zt (pc' := 108) zdQ_113_107 zm_113 rfl rfl ?_
  refine zt (pc' := 110) zdQ_113_108 zm_113 rfl rfl ?_
  show zev _ _ _ [_, _, _, _, _, _, _, _] _ _ _ _
  refine zt (pc' := 111) zdQ_113_110 zm_113 rfl rfl ?_
  refine zt (pc' := 113) zdQ_113_111 zm_113 rfl rfl ?_
  show zev _ _ _ [_, _, _, _, _, _, _, _] _ _ _ _
  refine zt (pc' := 115) zdQ_113_113 zm_113 rfl rfl ?_
  refine zt (pc' := 116) zdQ_113_115 zm_113 rfl rfl ?_
  refine zt_get (pc' := 119) zdQ_113_116 zm_113 rfl rfl M3 (by decide) rfl ?_
  refine zt_icF (tgt := 165) (pc' := 122) zdQ_113_119 zm_113 rfl rfl (znge (by decide)) ?_
  refine zt (pc' := 124) zdQ_113_122 zm_113 rfl rfl ?_
  refine zt_ifT (tgt := 165) (pc' := 127) zdQ_113_124 zm_113 rfl rfl (zeq rfl) ?_
  refine zt (pc' := 167) zdQ_113_165 zm_113 rfl rfl ?_
  refine zt_ifT (tgt := 187) (pc' := 170) zdQ_113_167 zm_113 rfl rfl (zeq rfl) ?_
  refine zt (pc' := 190) zdQ_113_187 zm_113 rfl rfl ?_
  show zev _ _ _ [_, _, _, _, _, _, _, _] _ _ _ _
  refine zt (pc' := 74) zdQ_113_190 zm_113 rfl rfl ?_
  refine zt (pc' := 76) zdQ_113_74 zm_113 rfl rfl ?_
  refine zt (pc' := 77) zdQ_113_76 zm_113 rfl rfl ?_
  refine zt (pc' := 78) zdQ_113_77 zm_113 rfl rfl ?_
  refine zt_get (pc' := 81) zdQ_113_78 zm_113 rfl rfl M3 (by decide) rfl ?_
  refine zt (pc' := 82) zdQ_113_81 zm_113 rfl rfl ?_
  refine zt_icT (tgt := 193) (pc' := 85) zdQ_113_82 zm_113 rfl rfl (zge (by decide)) ?_
  refine zt (pc' := 195) zdQ_113_193 zm_113 rfl rfl ?_
  exact zte zdQ_113_195 zm_113 rfl
theorem zr_bu {d : Nat} {w : zW} {v : Int32} {q1 q2 : Value} (hX : w.1 1 = some (.inr (4, [.ref 2, q1, q2]))) {p0 p1 p2 p3 : Value} {ve : Int32} (hF : w.1 2 = some (.inr (1, [p0, p1, p2, p3, .int 1, .int 0, .int ve]))) (h : v < 0 ∨ (1 : Int32) ≤ v) : zmet (d + 1) 75 [.ref 1, .int v] w (some (.int (-1))) w := by
  refine ⟨_, rfl, Nat.le_of_ble_eq_true rfl, ?_⟩
  show zev (d + 1) 75 0 [some (.ref 1), some (.int v)] [] w _ _
  refine zt (pc' := 1) zdQ_75_0 zm_75 rfl rfl ?_
  refine zt_get (pc' := 4) zdQ_75_1 zm_75 rfl rfl hX (by decide) rfl ?_
  refine zt (pc' := 5) zdQ_75_4 zm_75 rfl rfl ?_
  refine zt_V (pc' := 8) zdQ_75_5 zm_75 rfl zq_6_34 rfl (Nat.le_of_ble_eq_true rfl) hF zqv_6_34_1 (by decide) rfl (c_hasJoint0 hF h) ?_
  refine zt_ifT (tgt := 20) (pc' := 11) zdQ_75_8 zm_75 rfl rfl (zeq rfl) ?_
  refine zt (pc' := 21) zdQ_75_20 zm_75 rfl rfl ?_
  exact zte zdQ_75_21 zm_75 rfl
theorem zx4_9f : zx4.1 9 = some (.inr (5, [.int 1, .ref 10, .int 0, .ref 11, .ref 12, .ref 13, .ref 14, .ref 15, .ref 16, .int 0, .int 0, .ref 17, .ref 18, .long 0, .ref 19, .ref 20, .int 0, .ref 21, .int 0, .ref 22, .ref 23, .ref 24, .ref 25, .ref 26])) := zobj_ok (by decide +kernel)
def zarr (w : zW) (a n : Nat) : Bool := match w.1 a with
  | some (.inl (0, m, .inl f)) => decide (m = n) && decide (f 0 = 0) && decide (f 1 = 0) && decide (f 2 = 0)
  | _ => false
theorem zarr_ok {w : zW} {a n : Nat} (h : zarr w a n = true) : ∃ f : Nat → Int32, w.1 a = some (.inl (0, n, .inl f)) ∧ f 0 = 0 ∧ f 1 = 0 ∧ f 2 = 0 := by
  unfold zarr at h
  split at h
  · rename_i m f hw
    simp only [Bool.and_eq_true, decide_eq_true_eq] at h
    obtain ⟨⟨⟨a1, a2⟩, a3⟩, a4⟩ := h
    subst a1
    exact ⟨f, hw, a2, a3, a4⟩
  · cases h
theorem zt_ias {d mi pc mL o a N : Nat} {L : zL} {w w' : zW} {r : Option Value} {y : MethodName} {b : ByteArray} {ret : Option FieldType} {ini : Bool} {f : Nat → Int32} {x v : Int32} {rr : List Value} {pc' : Nat} (hd : zdec mi pc = some (.iastore, 1)) (hM : zMt[mi]? = some (y, b, mL, ret, o, ini)) (hp : pc + 1 = pc') (ha : w.1 a = some (.inl (0, N, .inl f))) (hi : zbd x N = true) (kk : zev d mi pc' L rr (va_up w.1 a (some (.inl (0, N, .inl (upd f x.toNatClampNeg v)))), w.2) r w') : zev d mi pc L (.int v :: .int x :: .ref a :: rr) w r w' := by
  subst hp
  exact zev_iast hM (zdec_ok hM hd) ha hi kk
def zu (w : zW) (a : Nat) (e : va_E) : zW := (va_up w.1 a (some e), w.2)
theorem zu_self {w : zW} {a : Nat} {e : va_E} : (zu w a e).1 a = some e := va_up_self _ _ _
theorem zu_ne {w : zW} {a b : Nat} {e : va_E} (h : b ≠ a) : (zu w a e).1 b = w.1 b := va_up_ne _ _ h
theorem zu_Rm {w : zW} {a : Nat} {e : va_E} (r : zRm w) (h0 : 0 ≠ a) (h9 : 9 ≠ a) : zRm (zu w a e) := ⟨r.1, r.2.1, r.2.2.1, (zu_ne h0).trans r.2.2.2.1, by
  obtain ⟨fs, h⟩ := r.2.2.2.2
  exact ⟨fs, (zu_ne h9).trans h⟩⟩
theorem zt_iau {d mi pc mL o a N : Nat} {L : zL} {w w' : zW} {r : Option Value} {y : MethodName} {b : ByteArray} {ret : Option FieldType} {ini : Bool} {f : Nat → Int32} {x v : Int32} {rr : List Value} {pc' : Nat} (hd : zdec mi pc = some (.iastore, 1)) (hM : zMt[mi]? = some (y, b, mL, ret, o, ini)) (hp : pc + 1 = pc') (ha : w.1 a = some (.inl (0, N, .inl f))) (hi : zbd x N = true) (kk : zev d mi pc' L rr (zu w a (.inl (0, N, .inl (upd f x.toNatClampNeg v)))) r w') : zev d mi pc L (.int v :: .int x :: .ref a :: rr) w r w' := zt_ias hd hM hp ha hi kk
theorem zt_bau {d mi pc mL o a N : Nat} {L : zL} {w w' : zW} {r : Option Value} {y : MethodName} {b : ByteArray} {ret : Option FieldType} {ini : Bool} {f : Nat → Int32} {x v : Int32} {rr : List Value} {pc' : Nat} (hd : zdec mi pc = some (.bastore, 1)) (hM : zMt[mi]? = some (y, b, mL, ret, o, ini)) (hp : pc + 1 = pc') (ha : w.1 a = some (.inl (2, N, .inl f))) (hi : zbd x N = true) (kk : zev d mi pc' L rr (zu w a (.inl (2, N, .inl (upd f x.toNatClampNeg (vp_nar .boolean v))))) r w') : zev d mi pc L (.int v :: .int x :: .ref a :: rr) w r w' := by
  subst hp
  exact zev_bast hM (zdec_ok hM hd) ha hi kk
theorem zt_puu {d mi pc mL o : Nat} {L : zL} {rr : List Value} {w w' : zW} {r : Option Value} {y : MethodName} {b : ByteArray} {ret : Option FieldType} {ini : Bool} {pc' idx a ci k : Nat} {fs : List Value} {cs : List Nat} {v : Value} (hd : zdec mi pc = some (.putfield idx, 3)) (hM : zMt[mi]? = some (y, b, mL, ret, o, ini)) (hf : zfl o idx = some (k, cs)) (hp : pc + 3 = pc') (ha : w.1 a = some (.inr (ci, fs))) (hc : ci ∈ cs) (hl : k < fs.length) (hv : zokv (ztyp ci k) v = true) (hn : zfin o ci k ini = true) (kk : zev d mi pc' L rr (zu w a (.inr (ci, fs.set k v))) r w') : zev d mi pc L (v :: .ref a :: rr) w r w' := zt_put hd hM hf hp ha hc hl hv hn kk
set_option maxHeartbeats 8000000 in
theorem zr_rbu {w1 w2 : zW} {v : Int32} {f : Nat → Int32} (M1 : w1.1 9 = some (.inr (5, [.int 1, .ref 10, .int 0, .ref 11, .ref 12, .ref 13, .ref 14, .ref 15, .ref 16, .int 0, .int 0, .ref 17, .ref 18, .long 0, .ref 19, .ref 20, .int 0, .ref 21, .int 0, .ref 22, .ref 23, .ref 24, .ref 25, .ref 26]))) (A1 : w1.1 26 = some (.inl (0, 7, .inl f))) (hb : zmet 39 127 [.ref 9] (zu w1 26 (.inl (0, 7, .inl (upd f 0 0)))) (some (.int 1)) w2) {l2 : Value} {m2 : List Value} (M2 : w2.1 9 = some (.inr (5, .int 1 :: l2 :: .int 0 :: m2))) (h : v < 0 ∨ (1 : Int32) - 1 < v) : zmet (40) 107 [.ref 9, .int v] w1 (some (.int (-1))) w2 := by
  refine ⟨_, rfl, Nat.le_of_ble_eq_true rfl, ?_⟩
  show zev (40) 107 0 [some (.ref 9), some (.int v), none, none] [] w1 _ _
  refine zt (pc' := 1) zdQ_107_0 zm_107 rfl rfl ?_
  refine zt (pc' := 2) zdQ_107_1 zm_107 rfl rfl ?_
  show zev _ _ _ [_, _, _, _] _ _ _ _
  refine zt (pc' := 3) zdQ_107_2 zm_107 rfl rfl ?_
  refine zt (pc' := 4) zdQ_107_3 zm_107 rfl rfl ?_
  refine zt_get (pc' := 7) zdQ_107_4 zm_107 rfl rfl M1 (by decide) rfl ?_
  refine zt_icF (tgt := 23) (pc' := 10) zdQ_107_7 zm_107 rfl rfl (znge (by decide)) ?_
  refine zt (pc' := 11) zdQ_107_10 zm_107 rfl rfl ?_
  refine zt_get (pc' := 14) zdQ_107_11 zm_107 rfl rfl M1 (by decide) rfl ?_
  refine zt (pc' := 15) zdQ_107_14 zm_107 rfl rfl ?_
  refine zt (pc' := 16) zdQ_107_15 zm_107 rfl rfl ?_
  refine zt_iau (pc' := 17) zdQ_107_16 zm_107 rfl A1 (by decide) ?_
  refine zt (pc' := 20) zdQ_107_17 zm_107 rfl rfl ?_
  show zev _ _ _ [_, _, _, _] _ _ _ _
  refine zt (pc' := 2) zdQ_107_20 zm_107 rfl rfl ?_
  refine zt (pc' := 3) zdQ_107_2 zm_107 rfl rfl ?_
  refine zt (pc' := 4) zdQ_107_3 zm_107 rfl rfl ?_
  refine zt_get (pc' := 7) zdQ_107_4 zm_107 rfl rfl ((zu_ne (by decide)).trans M1) (by decide) rfl ?_
  refine zt_icT (tgt := 23) (pc' := 10) zdQ_107_7 zm_107 rfl rfl (zge (by decide)) ?_
  refine zt (pc' := 24) zdQ_107_23 zm_107 rfl rfl ?_
  refine zt_V (pc' := 27) zdQ_107_24 zm_107 rfl zq_7_238 rfl (Nat.le_of_ble_eq_true rfl) ((zu_ne (by decide)).trans M1) zqv_7_238_5 (by decide) rfl (hb) ?_
  refine zt (pc' := 28) zdQ_107_27 zm_107 rfl rfl ?_
  show zev _ _ _ [_, _, _, _] _ _ _ _
  refine zt (pc' := 29) zdQ_107_28 zm_107 rfl rfl ?_
  refine zt (pc' := 30) zdQ_107_29 zm_107 rfl rfl ?_
  show zev _ _ _ [_, _, _, _] _ _ _ _
  refine zt (pc' := 31) zdQ_107_30 zm_107 rfl rfl ?_
  refine zt_ifT (tgt := 63) (pc' := 34) zdQ_107_31 zm_107 rfl rfl (zne (by decide)) ?_
  refine zt (pc' := 64) zdQ_107_63 zm_107 rfl rfl ?_
  refine zt_ifF (tgt := 90) (pc' := 67) zdQ_107_64 zm_107 rfl rfl (zneq (by decide)) ?_
  refine zt (pc' := 68) zdQ_107_67 zm_107 rfl rfl ?_
  refine zt (pc' := 69) zdQ_107_68 zm_107 rfl rfl ?_
  refine zt (pc' := 70) zdQ_107_69 zm_107 rfl rfl ?_
  refine zt_get (pc' := 73) zdQ_107_70 zm_107 rfl rfl M2 (by decide) rfl ?_
  refine zt (pc' := 74) zdQ_107_73 zm_107 rfl rfl ?_
  refine zt (pc' := 75) zdQ_107_74 zm_107 rfl rfl ?_
  refine zt_S (pc' := 78) zdQ_107_75 zm_107 rfl zq_7_70 (Nat.le_of_ble_eq_true rfl) (Nat.le_of_ble_eq_true rfl) rfl (c_isIn0 h) ?_
  refine zt_ifT (tgt := 90) (pc' := 81) zdQ_107_78 zm_107 rfl rfl (zeq rfl) ?_
  refine zt (pc' := 91) zdQ_107_90 zm_107 rfl rfl ?_
  exact zte zdQ_107_91 zm_107 rfl
end
section
/-! told, cluster, built: any arguments (printed by wip/gen/ref4.py) -/
theorem zm_4 : zMt[4]? = some (yX0_link, cX0_link, 3, none, 0, false) := rfl
theorem zd_4 (pc : Nat) : zdec 4 pc = zdl_4.lookup pc := rfl
theorem zm_29 : zMt[29]? = some (yX2_gatherParts, cX2_gatherParts, 3, none, 2, false) := rfl
theorem zd_29 (pc : Nat) : zdec 29 pc = zdl_29.lookup pc := rfl
theorem zm_36 : zMt[36]? = some (yX2_isCluster, cX2_isCluster, 3, (some .boolean), 2, false) := rfl
theorem zd_36 (pc : Nat) : zdec 36 pc = zdl_36.lookup pc := rfl
theorem zm_39 : zMt[39]? = some (yX2_isOfKind, cX2_isOfKind, 3, (some .boolean), 2, false) := rfl
theorem zd_39 (pc : Nat) : zdec 39 pc = zdl_39.lookup pc := rfl
theorem zm_52 : zMt[52]? = some (yX3_link, cX3_link, 4, none, 3, false) := rfl
theorem zd_52 (pc : Nat) : zdec 52 pc = zdl_52.lookup pc := rfl
theorem zm_119 : zMt[119]? = some (yX7_findParts, cX7_findParts, 4, none, 7, false) := rfl
theorem zd_119 (pc : Nat) : zdec 119 pc = zdl_119.lookup pc := rfl
theorem zm_127 : zMt[127]? = some (yX7_isBuilt, cX7_isBuilt, 4, (some .boolean), 7, false) := rfl
theorem zd_127 (pc : Nat) : zdec 127 pc = zdl_127.lookup pc := rfl
theorem zm_133 : zMt[133]? = some (yX7_isKind, cX7_isKind, 7, (some .boolean), 7, false) := rfl
theorem zd_133 (pc : Nat) : zdec 133 pc = zdl_133.lookup pc := rfl
theorem zm_148 : zMt[148]? = some (yX7_ones, cX7_ones, 3, (some .int), 7, false) := rfl
theorem zd_148 (pc : Nat) : zdec 148 pc = zdl_148.lookup pc := rfl
def zkZ (w : zW) (za ci : Nat) : Bool := match w.1 za with
  | some (.inr (c, .ref 2 :: _)) => decide (c = ci)
  | _ => false
theorem zkZ_ok {w : zW} {za ci : Nat} (h : zkZ w za ci = true) : ∃ g : List Value, w.1 za = some (.inr (ci, .ref 2 :: g)) := by
  unfold zkZ at h
  split at h
  · rename_i c g hw
    have e := of_decide_eq_true h
    subst e
    exact ⟨g, hw⟩
  · cases h
def zkM (w : zW) : Bool := match w.1 9 with
  | some (.inr (5, .int 1 :: _ :: .int 0 :: m)) => decide (m.length = 21)
  | _ => false
theorem zkM_ok {w : zW} (h : zkM w = true) : ∃ (l : Value) (m : List Value), w.1 9 = some (.inr (5, .int 1 :: l :: .int 0 :: m)) ∧ m.length = 21 := by
  unfold zkM at h
  split at h
  · rename_i l m hw
    exact ⟨l, m, hw, of_decide_eq_true h⟩
  · cases h
def zkF (w : zW) : Bool := zobj w 2 1 [.ref 3, .ref 4, .ref 5, .ref 6, .int 1, .int 0, .int 1]
def zkt2 (s b : Int32) (w2 : zW) (t : Int32) : Bool := match zrunT 1000000 39 133 0 (zin 7 [.ref 9, .int s, .int b, .int 0]) [] w2 with
  | some (some (.int u), w3) => decide (u = t) && zkM w3 && zRmb w3
  | _ => false
def zkt (s b : Int32) (za ci : Nat) (w1 : zW) (t : Int32) : Bool := match zrunT 1000000 38 39 0 (zin 3 [.ref za, .int b, .int 0]) [] w1 with
  | some (some (.int u), w2) => decide (u = t) && zkZ w2 za ci && zkF w2 && zkM w2 && zRmb w2 && zkt2 s b w2 t
  | _ => false
theorem zkt_ok {s b t : Int32} {za ci : Nat} {w1 : zW} (h : zkt s b za ci w1 t = true) : ∃ (w2 w3 : zW) (g : List Value) (l2 : Value) (m2 : List Value) (l3 : Value) (m3 : List Value), zmet 38 39 [.ref za, .int b, .int 0] w1 (some (.int t)) w2 ∧ w2.1 za = some (.inr (ci, .ref 2 :: g)) ∧ w2.1 2 = some (.inr (1, [.ref 3, .ref 4, .ref 5, .ref 6, .int 1, .int 0, .int 1])) ∧ w2.1 9 = some (.inr (5, .int 1 :: l2 :: .int 0 :: m2)) ∧ zmet 39 133 [.ref 9, .int s, .int b, .int 0] w2 (some (.int t)) w3 ∧ w3.1 9 = some (.inr (5, .int 1 :: l3 :: .int 0 :: m3)) ∧ zRm w2 ∧ zRm w3 := by
  unfold zkt at h
  split at h
  · rename_i u w2 h1
    simp only [Bool.and_eq_true, decide_eq_true_eq] at h
    obtain ⟨⟨⟨⟨⟨e, a1⟩, a2⟩, a3⟩, a4⟩, a5⟩ := h
    subst e
    unfold zkt2 at a5
    split at a5
    · rename_i u' w3 h2
      simp only [Bool.and_eq_true, decide_eq_true_eq] at a5
      obtain ⟨⟨e', b1⟩, b2⟩ := a5
      subst e'
      obtain ⟨g, hz⟩ := zkZ_ok a1
      obtain ⟨l2, m2, h9, -⟩ := zkM_ok a3
      obtain ⟨l3, m3, h9', -⟩ := zkM_ok b1
      exact ⟨w2, w3, g, l2, m2, l3, m3, ⟨_, zm_39, Nat.le_of_ble_eq_true rfl, _, zrunT_ok _ _ _ _ _ _ _ _ h1⟩, hz, zobj_ok a2, h9, ⟨_, zm_133, Nat.le_of_ble_eq_true rfl, _, zrunT_ok _ _ _ _ _ _ _ _ h2⟩, h9', zRm_ok a4, zRm_ok b2⟩
    · cases a5
  · cases h
theorem zr_T1_0 {s b k : Int32} {za : Nat} {w1 : zW} {g1 : List Value} (hm : zmet 39 91 [.ref 1, .int s] zx4 (some (.ref za)) w1) (z1 : w1.1 za = some (.inr (0, .ref 2 :: g1))) (f1 : w1.1 2 = some (.inr (1, [.ref 3, .ref 4, .ref 5, .ref 6, .int 1, .int 0, .int 1]))) (hS : ∀ {w : zW} {l : Value} {m : List Value}, w.1 9 = some (.inr (5, .int 1 :: l :: .int 0 :: m)) → zmet 39 138 [.ref 9, .int s] w (some (.int 1)) w) (h0 : ¬ b < 0) (h7 : b < 7) (h6 : ¬ 6 < b) (h4 : ¬ b = 4) (hk : zkt s b za 0 w1 1 = true) (hn : ¬ (0 : Int32) = k) : zP 99 166 [.int s, .int b, .int k] := by
  obtain ⟨w2, w3, g, l2, m2, l3, m3, a1, a2, a3, a4, a5, a6, a7, a8⟩ := zkt_ok hk
  exact ⟨-1, w2, w3, zr_toldS_0 hm z1 h0 h7 h4 (zr_set1_0 z1 f1 a1 a2 a3 hn), zr_rtold1 a4 (hS a4) h0 h6 h4 a5 a6 hn, a7, a8⟩
theorem zr_T0_0 {s b k : Int32} {za : Nat} {w1 : zW} {g1 : List Value} (hm : zmet 39 91 [.ref 1, .int s] zx4 (some (.ref za)) w1) (z1 : w1.1 za = some (.inr (0, .ref 2 :: g1))) (f1 : w1.1 2 = some (.inr (1, [.ref 3, .ref 4, .ref 5, .ref 6, .int 1, .int 0, .int 1]))) (hS : ∀ {w : zW} {l : Value} {m : List Value}, w.1 9 = some (.inr (5, .int 1 :: l :: .int 0 :: m)) → zmet 39 138 [.ref 9, .int s] w (some (.int 1)) w) (h0 : ¬ b < 0) (h7 : b < 7) (h6 : ¬ 6 < b) (h4 : ¬ b = 4) (hk : zkt s b za 0 w1 0 = true) : zP 99 166 [.int s, .int b, .int k] := by
  obtain ⟨w2, w3, g, l2, m2, l3, m3, a1, a2, a3, a4, a5, a6, a7, a8⟩ := zkt_ok hk
  exact ⟨-1, w2, w3, zr_toldS_0 hm z1 h0 h7 h4 (zr_set0_0 z1 f1 a1 a2 a3), zr_rtold0 a4 (hS a4) h0 h6 h4 a5 a6, a7, a8⟩
theorem zr_T1_2 {s b k : Int32} {za : Nat} {w1 : zW} {g1 : List Value} (hm : zmet 39 91 [.ref 1, .int s] zx4 (some (.ref za)) w1) (z1 : w1.1 za = some (.inr (2, .ref 2 :: g1))) (f1 : w1.1 2 = some (.inr (1, [.ref 3, .ref 4, .ref 5, .ref 6, .int 1, .int 0, .int 1]))) (hS : ∀ {w : zW} {l : Value} {m : List Value}, w.1 9 = some (.inr (5, .int 1 :: l :: .int 0 :: m)) → zmet 39 138 [.ref 9, .int s] w (some (.int 1)) w) (h0 : ¬ b < 0) (h7 : b < 7) (h6 : ¬ 6 < b) (h4 : ¬ b = 4) (hk : zkt s b za 2 w1 1 = true) (hn : ¬ (0 : Int32) = k) : zP 99 166 [.int s, .int b, .int k] := by
  obtain ⟨w2, w3, g, l2, m2, l3, m3, a1, a2, a3, a4, a5, a6, a7, a8⟩ := zkt_ok hk
  exact ⟨-1, w2, w3, zr_toldS_2 hm z1 h0 h7 h4 (zr_set1_2 z1 f1 a1 a2 a3 hn), zr_rtold1 a4 (hS a4) h0 h6 h4 a5 a6 hn, a7, a8⟩
theorem zr_T0_2 {s b k : Int32} {za : Nat} {w1 : zW} {g1 : List Value} (hm : zmet 39 91 [.ref 1, .int s] zx4 (some (.ref za)) w1) (z1 : w1.1 za = some (.inr (2, .ref 2 :: g1))) (f1 : w1.1 2 = some (.inr (1, [.ref 3, .ref 4, .ref 5, .ref 6, .int 1, .int 0, .int 1]))) (hS : ∀ {w : zW} {l : Value} {m : List Value}, w.1 9 = some (.inr (5, .int 1 :: l :: .int 0 :: m)) → zmet 39 138 [.ref 9, .int s] w (some (.int 1)) w) (h0 : ¬ b < 0) (h7 : b < 7) (h6 : ¬ 6 < b) (h4 : ¬ b = 4) (hk : zkt s b za 2 w1 0 = true) : zP 99 166 [.int s, .int b, .int k] := by
  obtain ⟨w2, w3, g, l2, m2, l3, m3, a1, a2, a3, a4, a5, a6, a7, a8⟩ := zkt_ok hk
  exact ⟨-1, w2, w3, zr_toldS_2 hm z1 h0 h7 h4 (zr_set0_2 z1 f1 a1 a2 a3), zr_rtold0 a4 (hS a4) h0 h6 h4 a5 a6, a7, a8⟩
theorem zr_rmU {w : zW} (r : zRm w) (e : List Value) : zRm (va_up w.1 9 (some (.inr (5, e))), w.2) := by
  have h : va_up w.1 9 (some (.inr (5, e))) 0 = w.1 0 := va_up_ne w.1 (some (.inr (5, e))) (show (0 : Nat) ≠ 9 by decide)
  have h9 : va_up w.1 9 (some (.inr (5, e))) 9 = some (.inr (5, e)) := va_up_self w.1 9 (some (.inr (5, e)))
  exact ⟨r.1, r.2.1, r.2.2.1, h.trans r.2.2.2.1, ⟨e, h9⟩⟩
def zkp2 (s : Int32) (w2 : zW) : Bool := match zrunT 1000000 38 119 0 (zin 4 [.ref 9, .int s]) [] w2 with
  | some (none, w3) => zkM w3 && zRmb w3
  | _ => false
def zkp (s : Int32) (za ci : Nat) (w1 : zW) : Bool := match zrunT 1000000 38 29 0 (zin 3 [.ref za]) [] w1 with
  | some (none, w2) => zkZ w2 za ci && zkF w2 && zkM w2 && zRmb w2 && zkp2 s w2
  | _ => false
theorem zr_TP_0 {s k : Int32} {za : Nat} {w1 : zW} {g1 : List Value} (hm : zmet 39 91 [.ref 1, .int s] zx4 (some (.ref za)) w1) (z1 : w1.1 za = some (.inr (0, .ref 2 :: g1))) (hS : ∀ {w : zW} {l : Value} {m : List Value}, w.1 9 = some (.inr (5, .int 1 :: l :: .int 0 :: m)) → zmet 39 138 [.ref 9, .int s] w (some (.int 1)) w) (h : zkp s za 0 w1 = true) : zP 99 166 [.int s, .int 4, .int k] := by
  unfold zkp at h
  split at h
  · rename_i w2 h1
    simp only [Bool.and_eq_true] at h
    obtain ⟨⟨⟨⟨a1, a2⟩, a3⟩, a4⟩, a5⟩ := h
    unfold zkp2 at a5
    split at a5
    · rename_i w3 h2
      simp only [Bool.and_eq_true] at a5
      obtain ⟨b1, b2⟩ := a5
      obtain ⟨g, hz⟩ := zkZ_ok a1
      obtain ⟨l2, m2, h9, -⟩ := zkM_ok a3
      obtain ⟨l3, m3, h9', hl⟩ := zkM_ok b1
      have r3 := zRm_ok b2
      refine ⟨-1, w2, _, zr_toldP_0 hm z1 (zr_part_0 z1 ⟨_, zm_29, Nat.le_of_ble_eq_true rfl, _, zrunT_ok _ _ _ _ _ _ _ _ h1⟩ hz (zobj_ok a2)), zr_rtoldP h9 (hS h9) (zr_rpart h9 ⟨_, zm_119, Nat.le_of_ble_eq_true rfl, _, zrunT_ok _ _ _ _ _ _ _ _ h2⟩ h9' hl), zRm_ok a4, zr_rmU r3 _⟩
    · cases a5
  · cases h
theorem zr_TP_2 {s k : Int32} {za : Nat} {w1 : zW} {g1 : List Value} (hm : zmet 39 91 [.ref 1, .int s] zx4 (some (.ref za)) w1) (z1 : w1.1 za = some (.inr (2, .ref 2 :: g1))) (hS : ∀ {w : zW} {l : Value} {m : List Value}, w.1 9 = some (.inr (5, .int 1 :: l :: .int 0 :: m)) → zmet 39 138 [.ref 9, .int s] w (some (.int 1)) w) (h : zkp s za 2 w1 = true) : zP 99 166 [.int s, .int 4, .int k] := by
  unfold zkp at h
  split at h
  · rename_i w2 h1
    simp only [Bool.and_eq_true] at h
    obtain ⟨⟨⟨⟨a1, a2⟩, a3⟩, a4⟩, a5⟩ := h
    unfold zkp2 at a5
    split at a5
    · rename_i w3 h2
      simp only [Bool.and_eq_true] at a5
      obtain ⟨b1, b2⟩ := a5
      obtain ⟨g, hz⟩ := zkZ_ok a1
      obtain ⟨l2, m2, h9, -⟩ := zkM_ok a3
      obtain ⟨l3, m3, h9', hl⟩ := zkM_ok b1
      have r3 := zRm_ok b2
      refine ⟨-1, w2, _, zr_toldP_2 hm z1 (zr_part_2 z1 ⟨_, zm_29, Nat.le_of_ble_eq_true rfl, _, zrunT_ok _ _ _ _ _ _ _ _ h1⟩ hz (zobj_ok a2)), zr_rtoldP h9 (hS h9) (zr_rpart h9 ⟨_, zm_119, Nat.le_of_ble_eq_true rfl, _, zrunT_ok _ _ _ _ _ _ _ _ h2⟩ h9' hl), zRm_ok a4, zr_rmU r3 _⟩
    · cases a5
  · cases h
def zkc5 (w5 : zW) : Bool := match zrunT 1000000 39 148 0 (zin 3 [.int 1]) [] w5 with
  | some (some (.int 1), w6) => zkM w6 && zRmb w6
  | _ => false
def zkc4 (w4 : zW) : Bool := match zrunT 1000000 39 148 0 (zin 3 [.int 0]) [] w4 with
  | some (some (.int 0), w5) => zkM w5 && zkc5 w5
  | _ => false
def zkc3 (za ci : Nat) (w3 : zW) : Bool := match zrunT 1000000 38 36 0 (zin 3 [.ref za, .int 1]) [] w3 with
  | some (some (.int 0), w4) => zkZ w4 za ci && zkF w4 && zkM w4 && zRmb w4 && zkc4 w4
  | _ => false
def zkc2 (za ci : Nat) (w2 : zW) : Bool := match zrunT 1000000 38 36 0 (zin 3 [.ref za, .int 0]) [] w2 with
  | some (some (.int 0), w3) => zkZ w3 za ci && zkF w3 && zkc3 za ci w3
  | _ => false
theorem zkc4_ok {w4 : zW} (h : zkc4 w4 = true) : ∃ (w5 w6 : zW) (l5 : Value) (m5 : List Value) (l6 : Value) (m6 : List Value), zmet 39 148 [.int 0] w4 (some (.int 0)) w5 ∧ w5.1 9 = some (.inr (5, .int 1 :: l5 :: .int 0 :: m5)) ∧ zmet 39 148 [.int 1] w5 (some (.int 1)) w6 ∧ w6.1 9 = some (.inr (5, .int 1 :: l6 :: .int 0 :: m6)) ∧ zRm w6 := by
  unfold zkc4 at h
  split at h
  · rename_i w5 h1
    simp only [Bool.and_eq_true] at h
    obtain ⟨a1, a2⟩ := h
    unfold zkc5 at a2
    split at a2
    · rename_i w6 h2
      simp only [Bool.and_eq_true] at a2
      obtain ⟨b1, b2⟩ := a2
      obtain ⟨l5, m5, h9, -⟩ := zkM_ok a1
      obtain ⟨l6, m6, h9', -⟩ := zkM_ok b1
      exact ⟨w5, w6, l5, m5, l6, m6, ⟨_, zm_148, Nat.le_of_ble_eq_true rfl, _, zrunT_ok _ _ _ _ _ _ _ _ h1⟩, h9, ⟨_, zm_148, Nat.le_of_ble_eq_true rfl, _, zrunT_ok _ _ _ _ _ _ _ _ h2⟩, h9', zRm_ok b2⟩
    · cases a2
  · cases h
def zkc_0 (za : Nat) (w1 : zW) : Bool := match zrunT 1000000 39 4 0 (zin 3 [.ref za, .int 0]) [] w1 with
  | some (none, w2) => zkZ w2 za 0 && zkF w2 && zkc2 za 0 w2
  | _ => false
theorem zr_C_0 {s k : Int32} {za : Nat} {w1 : zW} {g1 : List Value} (hm : zmet 39 91 [.ref 1, .int s] zx4 (some (.ref za)) w1) (k1 : w1.1 1 = some (.inr (4, [.ref 2, .ref 7, .ref 8]))) (z1 : w1.1 za = some (.inr (0, .ref 2 :: g1))) (f1 : w1.1 2 = some (.inr (1, [.ref 3, .ref 4, .ref 5, .ref 6, .int 1, .int 0, .int 1]))) (hS : ∀ {w : zW} {l : Value} {m : List Value}, w.1 9 = some (.inr (5, .int 1 :: l :: .int 0 :: m)) → zmet 39 138 [.ref 9, .int s] w (some (.int 1)) w) (h : zkc_0 za w1 = true) : zP 77 113 [.int s, .int k] := by
  unfold zkc_0 at h
  split at h
  · rename_i w2 h1
    simp only [Bool.and_eq_true] at h
    obtain ⟨⟨a1, a2⟩, a3⟩ := h
    unfold zkc2 at a3
    split at a3
    · rename_i w3 h2
      simp only [Bool.and_eq_true] at a3
      obtain ⟨⟨b1, b2⟩, b3⟩ := a3
      unfold zkc3 at b3
      split at b3
      · rename_i w4 h3
        simp only [Bool.and_eq_true] at b3
        obtain ⟨⟨⟨⟨c1, c2⟩, c3⟩, c4⟩, c5⟩ := b3
        obtain ⟨w5, w6, l5, m5, l6, m6, e1, e2, e3, e4, e5⟩ := zkc4_ok c5
        obtain ⟨g2, z2⟩ := zkZ_ok a1
        obtain ⟨g3, z3⟩ := zkZ_ok b1
        obtain ⟨g4, z4⟩ := zkZ_ok c1
        obtain ⟨l4, m4, h9, -⟩ := zkM_ok c3
        have y1 : zmet 39 4 [.ref za, .int 0] w1 none w2 := ⟨_, zm_4, Nat.le_of_ble_eq_true rfl, _, zrunT_ok _ _ _ _ _ _ _ _ h1⟩
        have y2 : zmet 38 36 [.ref za, .int 0] w2 (some (.int 0)) w3 := ⟨_, zm_36, Nat.le_of_ble_eq_true rfl, _, zrunT_ok _ _ _ _ _ _ _ _ h2⟩
        have y3 : zmet 38 36 [.ref za, .int 1] w3 (some (.int 0)) w4 := ⟨_, zm_36, Nat.le_of_ble_eq_true rfl, _, zrunT_ok _ _ _ _ _ _ _ _ h3⟩
        exact ⟨-1, w4, w6, zr_cl_0 hm k1 f1 z1 y1 z2 (zr_clA_0 z2 (zobj_ok a2) z3 (zobj_ok b2) z4 (zobj_ok c2) y2 y3), zr_rcl h9 (hS h9) e1 e2 e3 e4, zRm_ok c4, e5⟩
      · cases b3
    · cases a3
  · cases h
def zkc_2 (za : Nat) (w1 : zW) : Bool := match zrunT 1000000 39 52 0 (zin 4 [.ref za, .int 0]) [] w1 with
  | some (none, w2) => zkZ w2 za 2 && zkF w2 && zkc2 za 2 w2
  | _ => false
theorem zr_C_2 {s k : Int32} {za : Nat} {w1 : zW} {g1 : List Value} (hm : zmet 39 91 [.ref 1, .int s] zx4 (some (.ref za)) w1) (k1 : w1.1 1 = some (.inr (4, [.ref 2, .ref 7, .ref 8]))) (z1 : w1.1 za = some (.inr (2, .ref 2 :: g1))) (f1 : w1.1 2 = some (.inr (1, [.ref 3, .ref 4, .ref 5, .ref 6, .int 1, .int 0, .int 1]))) (hS : ∀ {w : zW} {l : Value} {m : List Value}, w.1 9 = some (.inr (5, .int 1 :: l :: .int 0 :: m)) → zmet 39 138 [.ref 9, .int s] w (some (.int 1)) w) (h : zkc_2 za w1 = true) : zP 77 113 [.int s, .int k] := by
  unfold zkc_2 at h
  split at h
  · rename_i w2 h1
    simp only [Bool.and_eq_true] at h
    obtain ⟨⟨a1, a2⟩, a3⟩ := h
    unfold zkc2 at a3
    split at a3
    · rename_i w3 h2
      simp only [Bool.and_eq_true] at a3
      obtain ⟨⟨b1, b2⟩, b3⟩ := a3
      unfold zkc3 at b3
      split at b3
      · rename_i w4 h3
        simp only [Bool.and_eq_true] at b3
        obtain ⟨⟨⟨⟨c1, c2⟩, c3⟩, c4⟩, c5⟩ := b3
        obtain ⟨w5, w6, l5, m5, l6, m6, e1, e2, e3, e4, e5⟩ := zkc4_ok c5
        obtain ⟨g2, z2⟩ := zkZ_ok a1
        obtain ⟨g3, z3⟩ := zkZ_ok b1
        obtain ⟨g4, z4⟩ := zkZ_ok c1
        obtain ⟨l4, m4, h9, -⟩ := zkM_ok c3
        have y1 : zmet 39 52 [.ref za, .int 0] w1 none w2 := ⟨_, zm_52, Nat.le_of_ble_eq_true rfl, _, zrunT_ok _ _ _ _ _ _ _ _ h1⟩
        have y2 : zmet 38 36 [.ref za, .int 0] w2 (some (.int 0)) w3 := ⟨_, zm_36, Nat.le_of_ble_eq_true rfl, _, zrunT_ok _ _ _ _ _ _ _ _ h2⟩
        have y3 : zmet 38 36 [.ref za, .int 1] w3 (some (.int 0)) w4 := ⟨_, zm_36, Nat.le_of_ble_eq_true rfl, _, zrunT_ok _ _ _ _ _ _ _ _ h3⟩
        exact ⟨-1, w4, w6, zr_cl_2 hm k1 f1 z1 y1 z2 (zr_clA_2 z2 (zobj_ok a2) z3 (zobj_ok b2) z4 (zobj_ok c2) y2 y3), zr_rcl h9 (hS h9) e1 e2 e3 e4, zRm_ok c4, e5⟩
      · cases b3
    · cases a3
  · cases h
theorem zr_z0 : zkZ zy0 za0 2 = true := by decide +kernel
theorem zr_z1 : zkZ zy1 za1 2 = true := by decide +kernel
theorem zr_z2 : zkZ zy2 za2 0 = true := by decide +kernel
theorem zkt_0_0 : zkt 0 0 za0 2 zy0 1 = true := by decide +kernel
theorem zkt_0_1 : zkt 0 1 za0 2 zy0 1 = true := by decide +kernel
theorem zkt_0_2 : zkt 0 2 za0 2 zy0 0 = true := by decide +kernel
theorem zkt_0_3 : zkt 0 3 za0 2 zy0 1 = true := by decide +kernel
theorem zkt_0_5 : zkt 0 5 za0 2 zy0 1 = true := by decide +kernel
theorem zkt_0_6 : zkt 0 6 za0 2 zy0 0 = true := by decide +kernel
theorem zkp_0 : zkp 0 za0 2 zy0 = true := by decide +kernel
theorem zkcl_0 : zkc_2 za0 zy0 = true := by decide +kernel
theorem zkt_1_0 : zkt 1 0 za1 2 zy1 1 = true := by decide +kernel
theorem zkt_1_1 : zkt 1 1 za1 2 zy1 1 = true := by decide +kernel
theorem zkt_1_2 : zkt 1 2 za1 2 zy1 0 = true := by decide +kernel
theorem zkt_1_3 : zkt 1 3 za1 2 zy1 1 = true := by decide +kernel
theorem zkt_1_5 : zkt 1 5 za1 2 zy1 1 = true := by decide +kernel
theorem zkt_1_6 : zkt 1 6 za1 2 zy1 0 = true := by decide +kernel
theorem zkp_1 : zkp 1 za1 2 zy1 = true := by decide +kernel
theorem zkcl_1 : zkc_2 za1 zy1 = true := by decide +kernel
theorem zkt_2_0 : zkt 2 0 za2 0 zy2 1 = true := by decide +kernel
theorem zkt_2_1 : zkt 2 1 za2 0 zy2 1 = true := by decide +kernel
theorem zkt_2_2 : zkt 2 2 za2 0 zy2 0 = true := by decide +kernel
theorem zkt_2_3 : zkt 2 3 za2 0 zy2 1 = true := by decide +kernel
theorem zkt_2_5 : zkt 2 5 za2 0 zy2 1 = true := by decide +kernel
theorem zkt_2_6 : zkt 2 6 za2 0 zy2 0 = true := by decide +kernel
theorem zkp_2 : zkp 2 za2 0 zy2 = true := by decide +kernel
theorem zkcl_2 : zkc_0 za2 zy2 = true := by decide +kernel
theorem p_told (v b c : Int32) : zP 99 166 [.int v, .int b, .int c] := by
  obtain ⟨p, ms, hM⟩ := zx4_9
  by_cases h : v < 0 ∨ 2 < v
  · exact zP_same (s_told zx4_1 h) (t_told hM h)
  · rcases z012 h with e | e | e <;> subst e
    · by_cases hb : b < 0 ∨ 6 < b
      · obtain ⟨p, ms, hM⟩ := zy0_9
        exact zP_to (s_told0 zy0_m hb) (t_told0 hM hb) zy0_r
      · obtain ⟨g, hz⟩ := zkZ_ok zr_z0
        rcases z06 hb with e | e | e | e | e | e | e <;> subst e
        · by_cases hc : (0 : Int32) = c
          · subst hc
            exact zc_told_0_0_0
          · exact zr_T1_2 zy0_m hz zy0_2 c_isSort1_0 (by decide) (by decide) (by decide) (by decide) zkt_0_0 hc
        · by_cases hc : (0 : Int32) = c
          · subst hc
            exact zc_told_0_1_0
          · exact zr_T1_2 zy0_m hz zy0_2 c_isSort1_0 (by decide) (by decide) (by decide) (by decide) zkt_0_1 hc
        · exact zr_T0_2 zy0_m hz zy0_2 c_isSort1_0 (by decide) (by decide) (by decide) (by decide) zkt_0_2
        · by_cases hc : (0 : Int32) = c
          · subst hc
            exact zc_told_0_3_0
          · exact zr_T1_2 zy0_m hz zy0_2 c_isSort1_0 (by decide) (by decide) (by decide) (by decide) zkt_0_3 hc
        · exact zr_TP_2 zy0_m hz c_isSort1_0 zkp_0
        · by_cases hc : (0 : Int32) = c
          · subst hc
            exact zc_told_0_5_0
          · exact zr_T1_2 zy0_m hz zy0_2 c_isSort1_0 (by decide) (by decide) (by decide) (by decide) zkt_0_5 hc
        · exact zr_T0_2 zy0_m hz zy0_2 c_isSort1_0 (by decide) (by decide) (by decide) (by decide) zkt_0_6
    · by_cases hb : b < 0 ∨ 6 < b
      · obtain ⟨p, ms, hM⟩ := zy1_9
        exact zP_to (s_told1 zy1_m hb) (t_told1 hM hb) zy1_r
      · obtain ⟨g, hz⟩ := zkZ_ok zr_z1
        rcases z06 hb with e | e | e | e | e | e | e <;> subst e
        · by_cases hc : (0 : Int32) = c
          · subst hc
            exact zc_told_1_0_0
          · exact zr_T1_2 zy1_m hz zy1_2 c_isSort1_1 (by decide) (by decide) (by decide) (by decide) zkt_1_0 hc
        · by_cases hc : (0 : Int32) = c
          · subst hc
            exact zc_told_1_1_0
          · exact zr_T1_2 zy1_m hz zy1_2 c_isSort1_1 (by decide) (by decide) (by decide) (by decide) zkt_1_1 hc
        · exact zr_T0_2 zy1_m hz zy1_2 c_isSort1_1 (by decide) (by decide) (by decide) (by decide) zkt_1_2
        · by_cases hc : (0 : Int32) = c
          · subst hc
            exact zc_told_1_3_0
          · exact zr_T1_2 zy1_m hz zy1_2 c_isSort1_1 (by decide) (by decide) (by decide) (by decide) zkt_1_3 hc
        · exact zr_TP_2 zy1_m hz c_isSort1_1 zkp_1
        · by_cases hc : (0 : Int32) = c
          · subst hc
            exact zc_told_1_5_0
          · exact zr_T1_2 zy1_m hz zy1_2 c_isSort1_1 (by decide) (by decide) (by decide) (by decide) zkt_1_5 hc
        · exact zr_T0_2 zy1_m hz zy1_2 c_isSort1_1 (by decide) (by decide) (by decide) (by decide) zkt_1_6
    · by_cases hb : b < 0 ∨ 6 < b
      · obtain ⟨p, ms, hM⟩ := zy2_9
        exact zP_to (s_told2 zy2_m hb) (t_told2 hM hb) zy2_r
      · obtain ⟨g, hz⟩ := zkZ_ok zr_z2
        rcases z06 hb with e | e | e | e | e | e | e <;> subst e
        · by_cases hc : (0 : Int32) = c
          · subst hc
            exact zc_told_2_0_0
          · exact zr_T1_0 zy2_m hz zy2_2 c_isSort1_2 (by decide) (by decide) (by decide) (by decide) zkt_2_0 hc
        · by_cases hc : (0 : Int32) = c
          · subst hc
            exact zc_told_2_1_0
          · exact zr_T1_0 zy2_m hz zy2_2 c_isSort1_2 (by decide) (by decide) (by decide) (by decide) zkt_2_1 hc
        · exact zr_T0_0 zy2_m hz zy2_2 c_isSort1_2 (by decide) (by decide) (by decide) (by decide) zkt_2_2
        · by_cases hc : (0 : Int32) = c
          · subst hc
            exact zc_told_2_3_0
          · exact zr_T1_0 zy2_m hz zy2_2 c_isSort1_2 (by decide) (by decide) (by decide) (by decide) zkt_2_3 hc
        · exact zr_TP_0 zy2_m hz c_isSort1_2 zkp_2
        · by_cases hc : (0 : Int32) = c
          · subst hc
            exact zc_told_2_5_0
          · exact zr_T1_0 zy2_m hz zy2_2 c_isSort1_2 (by decide) (by decide) (by decide) (by decide) zkt_2_5 hc
        · exact zr_T0_0 zy2_m hz zy2_2 c_isSort1_2 (by decide) (by decide) (by decide) (by decide) zkt_2_6
theorem p_cluster (v b : Int32) : zP 77 113 [.int v, .int b] := by
  obtain ⟨p, ms, hM⟩ := zx4_9
  by_cases h : v < 0 ∨ 2 < v
  · exact zP_same (s_cluster zx4_1 h) (t_cluster hM h)
  · rcases z012 h with e | e | e <;> subst e
    · obtain ⟨g, hz⟩ := zkZ_ok zr_z0
      exact zr_C_2 zy0_m zy0_1 hz zy0_2 c_isSort1_0 zkcl_0
    · obtain ⟨g, hz⟩ := zkZ_ok zr_z1
      exact zr_C_2 zy1_m zy1_1 hz zy1_2 c_isSort1_1 zkcl_1
    · obtain ⟨g, hz⟩ := zkZ_ok zr_z2
      exact zr_C_0 zy2_m zy2_1 hz zy2_2 c_isSort1_2 zkcl_2
theorem zx4_26 : zarr zx4 26 7 = true := by decide +kernel
def zbF : Nat → Int32 := match zx4.1 26 with
  | some (.inl (0, 7, .inl f)) => f
  | _ => fun _ => 0
theorem zbF_ok : zx4.1 26 = some (.inl (0, 7, .inl zbF)) := by
  obtain ⟨f, h, -⟩ := zarr_ok zx4_26
  have e : zbF = f := by
    unfold zbF
    rw [h]
    rfl
  rw [e]
  exact h
def zkb : Bool := match zrunT 1000000 39 127 0 (zin 4 [.ref 9]) [] (zu zx4 26 (.inl (0, 7, .inl (upd zbF 0 0)))) with
  | some (some (.int 1), w2) => zkM w2 && zRmb w2
  | _ => false
theorem zkb_ok : zkb = true := by decide +kernel
theorem p_built (v : Int32) : zP 75 107 [.int v] := by
  by_cases h : v < 0 ∨ (1 : Int32) ≤ v
  · have hk := zkb_ok
    unfold zkb at hk
    split at hk
    · rename_i w2 h1
      simp only [Bool.and_eq_true] at hk
      obtain ⟨l2, m2, h9, -⟩ := zkM_ok hk.1
      exact ⟨-1, zx4, w2, zr_bu zx4_1 zx4_2 h, zr_rbu zx4_9f zbF_ok ⟨_, zm_127, Nat.le_of_ble_eq_true rfl, _, zrunT_ok _ _ _ _ _ _ _ _ h1⟩ h9 (z10 h), zx4_Rm, zRm_ok hk.2⟩
    · cases hk
  · have e := z01 (fun k => h (Or.inl k)) (fun k => h (Or.inr k))
    subst e
    exact zc_built_0
end
section
/-! coefficient: any arguments (printed by wip/gen/ref5.py) -/
theorem zm_27 : zMt[27]? = some (yX2_coefficientAt, cX2_coefficientAt, 8, (some .int), 2, false) := rfl
theorem zd_27 (pc : Nat) : zdec 27 pc = zdl_27.lookup pc := rfl
theorem zm_47 : zMt[47]? = some (yX2_tallyPowers, cX2_tallyPowers, 4, none, 2, false) := rfl
theorem zd_47 (pc : Nat) : zdec 47 pc = zdl_47.lookup pc := rfl
theorem zm_109 : zMt[109]? = some (yX7_choose, cX7_choose, 4, (some .int), 7, false) := rfl
theorem zd_109 (pc : Nat) : zdec 109 pc = zdl_109.lookup pc := rfl
theorem zm_156 : zMt[156]? = some (yX7_rankOf, cX7_rankOf, 3, (some .int), 7, false) := rfl
theorem zd_156 (pc : Nat) : zdec 156 pc = zdl_156.lookup pc := rfl
theorem zm_164 : zMt[164]? = some (yX7_term, cX7_term, 2, (some .int), 7, false) := rfl
theorem zd_164 (pc : Nat) : zdec 164 pc = zdl_164.lookup pc := rfl
theorem zq_2_99 : zcl 2 99 = some (4, 0, 47, 0) := by decide +kernel
theorem zq_6_119 : zcl 6 119 = some (4, 0, 27, 2) := by decide +kernel
theorem zq_7_164 : zcl 7 164 = some (3, 5, 156, 2) := by decide +kernel
theorem zq_7_209 : zcl 7 209 = some (2, 0, 109, 2) := by decide +kernel
theorem zq_7_212 : zcl 7 212 = some (2, 0, 164, 2) := by decide +kernel
theorem zqv_2_99_0 : zclv 2 99 0 = some (4, 0, 47, 0) := by decide +kernel
theorem zqv_2_99_2 : zclv 2 99 2 = some (4, 2, 47, 0) := by decide +kernel
theorem zqv_6_119_0 : zclv 6 119 0 = some (4, 0, 27, 2) := by decide +kernel
theorem zqv_6_119_2 : zclv 6 119 2 = some (4, 2, 27, 2) := by decide +kernel
theorem zqv_7_164_5 : zclv 7 164 5 = some (3, 5, 156, 2) := by decide +kernel
theorem zdQ_27_0 : zdec 27 0 = some (.aload_n 0, 1) := by decide +kernel
theorem zdQ_27_1 : zdec 27 1 = some (.invokevirtual 99, 3) := by decide +kernel
theorem zdQ_27_4 : zdec 27 4 = some (.iconst 0, 1) := by decide +kernel
theorem zdQ_27_5 : zdec 27 5 = some (.istore_n 3, 1) := by decide +kernel
theorem zdQ_27_6 : zdec 27 6 = some (.iload_n 1, 1) := by decide +kernel
theorem zdQ_27_7 : zdec 27 7 = some (.istore 4, 2) := by decide +kernel
theorem zdQ_27_9 : zdec 27 9 = some (.iload 4, 2) := by decide +kernel
theorem zdQ_27_11 : zdec 27 11 = some (.bipush 12, 2) := by decide +kernel
theorem zdQ_27_13 : zdec 27 13 = some (.if_icmp .gt 92, 3) := by decide +kernel
theorem zdQ_27_16 : zdec 27 16 = some (.iload_n 2, 1) := by decide +kernel
theorem zdQ_27_17 : zdec 27 17 = some (.istore 5, 2) := by decide +kernel
theorem zdQ_27_19 : zdec 27 19 = some (.iload 5, 2) := by decide +kernel
theorem zdQ_27_21 : zdec 27 21 = some (.bipush 12, 2) := by decide +kernel
theorem zdQ_27_23 : zdec 27 23 = some (.if_icmp .gt 76, 3) := by decide +kernel
theorem zdQ_27_26 : zdec 27 26 = some (.aload_n 0, 1) := by decide +kernel
theorem zdQ_27_27 : zdec 27 27 = some (.getfield 21, 3) := by decide +kernel
theorem zdQ_27_30 : zdec 27 30 = some (.iload 4, 2) := by decide +kernel
theorem zdQ_27_32 : zdec 27 32 = some (.bipush 13, 2) := by decide +kernel
theorem zdQ_27_34 : zdec 27 34 = some (.imul, 1) := by decide +kernel
theorem zdQ_27_35 : zdec 27 35 = some (.iload 5, 2) := by decide +kernel
theorem zdQ_27_37 : zdec 27 37 = some (.iadd, 1) := by decide +kernel
theorem zdQ_27_38 : zdec 27 38 = some (.iaload, 1) := by decide +kernel
theorem zdQ_27_39 : zdec 27 39 = some (.istore 6, 2) := by decide +kernel
theorem zdQ_27_41 : zdec 27 41 = some (.iload 6, 2) := by decide +kernel
theorem zdQ_27_43 : zdec 27 43 = some (.ifCond .ne 7, 3) := by decide +kernel
theorem zdQ_27_46 : zdec 27 46 = some (.iconst 0, 1) := by decide +kernel
theorem zdQ_27_47 : zdec 27 47 = some (.goto 19, 3) := by decide +kernel
theorem zdQ_27_66 : zdec 27 66 = some (.istore 7, 2) := by decide +kernel
theorem zdQ_27_68 : zdec 27 68 = some (.iload_n 3, 1) := by decide +kernel
theorem zdQ_27_69 : zdec 27 69 = some (.iload 4, 2) := by decide +kernel
theorem zdQ_27_71 : zdec 27 71 = some (.iload_n 1, 1) := by decide +kernel
theorem zdQ_27_72 : zdec 27 72 = some (.isub, 1) := by decide +kernel
theorem zdQ_27_73 : zdec 27 73 = some (.iload 5, 2) := by decide +kernel
theorem zdQ_27_75 : zdec 27 75 = some (.iadd, 1) := by decide +kernel
theorem zdQ_27_76 : zdec 27 76 = some (.iload_n 2, 1) := by decide +kernel
theorem zdQ_27_77 : zdec 27 77 = some (.isub, 1) := by decide +kernel
theorem zdQ_27_78 : zdec 27 78 = some (.iconst 1, 1) := by decide +kernel
theorem zdQ_27_79 : zdec 27 79 = some (.iand, 1) := by decide +kernel
theorem zdQ_27_80 : zdec 27 80 = some (.ifCond .ne 8, 3) := by decide +kernel
theorem zdQ_27_83 : zdec 27 83 = some (.iload 7, 2) := by decide +kernel
theorem zdQ_27_85 : zdec 27 85 = some (.goto 6, 3) := by decide +kernel
theorem zdQ_27_88 : zdec 27 88 = some (.iload 7, 2) := by decide +kernel
theorem zdQ_27_90 : zdec 27 90 = some (.ineg, 1) := by decide +kernel
theorem zdQ_27_91 : zdec 27 91 = some (.iadd, 1) := by decide +kernel
theorem zdQ_27_92 : zdec 27 92 = some (.istore_n 3, 1) := by decide +kernel
theorem zdQ_27_93 : zdec 27 93 = some (.iinc 5 1, 3) := by decide +kernel
theorem zdQ_27_96 : zdec 27 96 = some (.goto (-77), 3) := by decide +kernel
theorem zdQ_27_99 : zdec 27 99 = some (.iinc 4 1, 3) := by decide +kernel
theorem zdQ_27_102 : zdec 27 102 = some (.goto (-93), 3) := by decide +kernel
theorem zdQ_27_105 : zdec 27 105 = some (.iload_n 3, 1) := by decide +kernel
theorem zdQ_27_106 : zdec 27 106 = some (.ireturn, 1) := by decide +kernel
theorem zdQ_78_0 : zdec 78 0 = some (.aload_n 0, 1) := by decide +kernel
theorem zdQ_78_1 : zdec 78 1 = some (.iload_n 1, 1) := by decide +kernel
theorem zdQ_78_2 : zdec 78 2 = some (.invokevirtual 82, 3) := by decide +kernel
theorem zdQ_78_5 : zdec 78 5 = some (.astore 4, 2) := by decide +kernel
theorem zdQ_78_7 : zdec 78 7 = some (.aload 4, 2) := by decide +kernel
theorem zdQ_78_9 : zdec 78 9 = some (.ifnonnull 6, 3) := by decide +kernel
theorem zdQ_78_15 : zdec 78 15 = some (.iload_n 2, 1) := by decide +kernel
theorem zdQ_78_16 : zdec 78 16 = some (.ifCond .lt 19, 3) := by decide +kernel
theorem zdQ_78_19 : zdec 78 19 = some (.iload_n 2, 1) := by decide +kernel
theorem zdQ_78_20 : zdec 78 20 = some (.bipush 12, 2) := by decide +kernel
theorem zdQ_78_22 : zdec 78 22 = some (.if_icmp .gt 13, 3) := by decide +kernel
theorem zdQ_78_25 : zdec 78 25 = some (.iload_n 3, 1) := by decide +kernel
theorem zdQ_78_26 : zdec 78 26 = some (.ifCond .lt 9, 3) := by decide +kernel
theorem zdQ_78_29 : zdec 78 29 = some (.iload_n 3, 1) := by decide +kernel
theorem zdQ_78_30 : zdec 78 30 = some (.bipush 12, 2) := by decide +kernel
theorem zdQ_78_32 : zdec 78 32 = some (.if_icmp .le 5, 3) := by decide +kernel
theorem zdQ_78_35 : zdec 78 35 = some (.iconst 0, 1) := by decide +kernel
theorem zdQ_78_36 : zdec 78 36 = some (.ireturn, 1) := by decide +kernel
theorem zdQ_78_37 : zdec 78 37 = some (.aload 4, 2) := by decide +kernel
theorem zdQ_78_39 : zdec 78 39 = some (.iload_n 2, 1) := by decide +kernel
theorem zdQ_78_40 : zdec 78 40 = some (.iload_n 3, 1) := by decide +kernel
theorem zdQ_78_41 : zdec 78 41 = some (.invokevirtual 119, 3) := by decide +kernel
theorem zdQ_78_44 : zdec 78 44 = some (.ireturn, 1) := by decide +kernel
theorem zdQ_109_0 : zdec 109 0 = some (.iconst 1, 1) := by decide +kernel
theorem zdQ_109_1 : zdec 109 1 = some (.istore_n 2, 1) := by decide +kernel
theorem zdQ_109_2 : zdec 109 2 = some (.iconst 0, 1) := by decide +kernel
theorem zdQ_109_3 : zdec 109 3 = some (.istore_n 3, 1) := by decide +kernel
theorem zdQ_109_4 : zdec 109 4 = some (.iload_n 3, 1) := by decide +kernel
theorem zdQ_109_5 : zdec 109 5 = some (.iload_n 1, 1) := by decide +kernel
theorem zdQ_109_6 : zdec 109 6 = some (.if_icmp .ge 19, 3) := by decide +kernel
theorem zdQ_109_25 : zdec 109 25 = some (.iload_n 2, 1) := by decide +kernel
theorem zdQ_109_26 : zdec 109 26 = some (.ireturn, 1) := by decide +kernel
theorem zdQ_114_0 : zdec 114 0 = some (.aload_n 0, 1) := by decide +kernel
theorem zdQ_114_1 : zdec 114 1 = some (.iload_n 1, 1) := by decide +kernel
theorem zdQ_114_2 : zdec 114 2 = some (.invokevirtual 158, 3) := by decide +kernel
theorem zdQ_114_5 : zdec 114 5 = some (.ifCond .ne 6, 3) := by decide +kernel
theorem zdQ_114_11 : zdec 114 11 = some (.iload_n 2, 1) := by decide +kernel
theorem zdQ_114_12 : zdec 114 12 = some (.ifCond .lt 7, 3) := by decide +kernel
theorem zdQ_114_15 : zdec 114 15 = some (.iload_n 3, 1) := by decide +kernel
theorem zdQ_114_16 : zdec 114 16 = some (.ifCond .ge 5, 3) := by decide +kernel
theorem zdQ_114_19 : zdec 114 19 = some (.iconst 0, 1) := by decide +kernel
theorem zdQ_114_20 : zdec 114 20 = some (.ireturn, 1) := by decide +kernel
theorem zdQ_114_21 : zdec 114 21 = some (.iconst 0, 1) := by decide +kernel
theorem zdQ_114_22 : zdec 114 22 = some (.istore 4, 2) := by decide +kernel
theorem zdQ_114_24 : zdec 114 24 = some (.iconst 0, 1) := by decide +kernel
theorem zdQ_114_25 : zdec 114 25 = some (.istore 5, 2) := by decide +kernel
theorem zdQ_114_27 : zdec 114 27 = some (.iload 5, 2) := by decide +kernel
theorem zdQ_114_29 : zdec 114 29 = some (.aload_n 0, 1) := by decide +kernel
theorem zdQ_114_30 : zdec 114 30 = some (.invokevirtual 151, 3) := by decide +kernel
theorem zdQ_114_33 : zdec 114 33 = some (.if_icmp .gt 53, 3) := by decide +kernel
theorem zdQ_114_36 : zdec 114 36 = some (.iload 4, 2) := by decide +kernel
theorem zdQ_114_38 : zdec 114 38 = some (.aload_n 0, 1) := by decide +kernel
theorem zdQ_114_39 : zdec 114 39 = some (.iload_n 1, 1) := by decide +kernel
theorem zdQ_114_40 : zdec 114 40 = some (.aload_n 0, 1) := by decide +kernel
theorem zdQ_114_41 : zdec 114 41 = some (.invokevirtual 151, 3) := by decide +kernel
theorem zdQ_114_44 : zdec 114 44 = some (.invokevirtual 164, 3) := by decide +kernel
theorem zdQ_114_47 : zdec 114 47 = some (.aload_n 0, 1) := by decide +kernel
theorem zdQ_114_48 : zdec 114 48 = some (.iload_n 1, 1) := by decide +kernel
theorem zdQ_114_49 : zdec 114 49 = some (.iload 5, 2) := by decide +kernel
theorem zdQ_114_51 : zdec 114 51 = some (.invokevirtual 164, 3) := by decide +kernel
theorem zdQ_114_54 : zdec 114 54 = some (.isub, 1) := by decide +kernel
theorem zdQ_114_55 : zdec 114 55 = some (.iload_n 2, 1) := by decide +kernel
theorem zdQ_114_56 : zdec 114 56 = some (.invokestatic 212, 3) := by decide +kernel
theorem zdQ_114_59 : zdec 114 59 = some (.iload 5, 2) := by decide +kernel
theorem zdQ_114_61 : zdec 114 61 = some (.invokestatic 126, 3) := by decide +kernel
theorem zdQ_114_64 : zdec 114 64 = some (.aload_n 0, 1) := by decide +kernel
theorem zdQ_114_65 : zdec 114 65 = some (.iload_n 1, 1) := by decide +kernel
theorem zdQ_114_66 : zdec 114 66 = some (.iload 5, 2) := by decide +kernel
theorem zdQ_114_68 : zdec 114 68 = some (.invokevirtual 164, 3) := by decide +kernel
theorem zdQ_114_71 : zdec 114 71 = some (.isub, 1) := by decide +kernel
theorem zdQ_114_72 : zdec 114 72 = some (.iload_n 3, 1) := by decide +kernel
theorem zdQ_114_73 : zdec 114 73 = some (.invokestatic 212, 3) := by decide +kernel
theorem zdQ_114_76 : zdec 114 76 = some (.imul, 1) := by decide +kernel
theorem zdQ_114_77 : zdec 114 77 = some (.iadd, 1) := by decide +kernel
theorem zdQ_114_78 : zdec 114 78 = some (.istore 4, 2) := by decide +kernel
theorem zdQ_114_80 : zdec 114 80 = some (.iinc 5 1, 3) := by decide +kernel
theorem zdQ_114_83 : zdec 114 83 = some (.goto (-56), 3) := by decide +kernel
theorem zdQ_114_86 : zdec 114 86 = some (.iload 4, 2) := by decide +kernel
theorem zdQ_114_88 : zdec 114 88 = some (.ireturn, 1) := by decide +kernel
theorem zdQ_164_0 : zdec 164 0 = some (.iload_n 1, 1) := by decide +kernel
theorem zdQ_164_1 : zdec 164 1 = some (.iload_n 0, 1) := by decide +kernel
theorem zdQ_164_2 : zdec 164 2 = some (.if_icmp .le 7, 3) := by decide +kernel
theorem zdQ_164_5 : zdec 164 5 = some (.iconst 0, 1) := by decide +kernel
theorem zdQ_164_6 : zdec 164 6 = some (.goto 25, 3) := by decide +kernel
theorem zdQ_164_9 : zdec 164 9 = some (.iload_n 0, 1) := by decide +kernel
theorem zdQ_164_10 : zdec 164 10 = some (.iload_n 1, 1) := by decide +kernel
theorem zdQ_164_11 : zdec 164 11 = some (.isub, 1) := by decide +kernel
theorem zdQ_164_12 : zdec 164 12 = some (.iconst 2, 1) := by decide +kernel
theorem zdQ_164_13 : zdec 164 13 = some (.irem, 1) := by decide +kernel
theorem zdQ_164_14 : zdec 164 14 = some (.ifCond .ne 11, 3) := by decide +kernel
theorem zdQ_164_17 : zdec 164 17 = some (.iload_n 0, 1) := by decide +kernel
theorem zdQ_164_18 : zdec 164 18 = some (.iload_n 1, 1) := by decide +kernel
theorem zdQ_164_19 : zdec 164 19 = some (.invokestatic 209, 3) := by decide +kernel
theorem zdQ_164_22 : zdec 164 22 = some (.goto 9, 3) := by decide +kernel
theorem zdQ_164_31 : zdec 164 31 = some (.ireturn, 1) := by decide +kernel
theorem zt_ial {d mi pc mL o a N : Nat} {L : zL} {w w' : zW} {r : Option Value} {y : MethodName} {b : ByteArray} {ret : Option FieldType} {ini : Bool} {f : Nat → Int32} {x : Int32} {rr : List Value} {pc' : Nat} (hd : zdec mi pc = some (.iaload, 1)) (hM : zMt[mi]? = some (y, b, mL, ret, o, ini)) (hp : pc + 1 = pc') (ha : w.1 a = some (.inl (0, N, .inl f))) (hi : zbd x N = true) (kk : zev d mi pc' L (.int (f x.toNatClampNeg) :: rr) w r w') : zev d mi pc L (.int x :: .ref a :: rr) w r w' := by
  subst hp
  exact zev_iald hM (zdec_ok hM hd) ha hi kk
theorem zt_ifB {d mi pc mL o tgt : Nat} {L : zL} {w w' : zW} {r : Option Value} {y : MethodName} {b : ByteArray} {ret : Option FieldType} {ini : Bool} {pc' : Nat} {rr : List Value} {c : Jvm.ClassFile.Cond} {off : Int} {x : Int32} (hd : zdec mi pc = some (.ifCond c off, 3)) (hM : zMt[mi]? = some (y, b, mL, ret, o, ini)) (ht : (pc : Int) + off = (tgt : Int)) (hp : pc + 3 = pc') (kt : zev d mi tgt L rr w r w') (kf : zev d mi pc' L rr w r w') : zev d mi pc L (.int x :: rr) w r w' := zev_if tgt hM (zdec_ok hM hd) ht (fun _ => kt) (fun _ => hp ▸ kf)
set_option maxHeartbeats 8000000 in
theorem zr_co0 {w1 : zW} {za : Nat} {s i j : Int32} (hm : zmet 39 91 [.ref 1, .int s] zx4 (some (.ref za)) w1) (h : i < 0 ∨ 12 < i ∨ j < 0 ∨ 12 < j) : zmet (40) 78 [.ref 1, .int s, .int i, .int j] zx4 (some (.int 0)) w1 := by
  refine ⟨_, rfl, Nat.le_of_ble_eq_true rfl, ?_⟩
  show zev (40) 78 0 [some (.ref 1), some (.int s), some (.int i), some (.int j), none] [] zx4 _ _
  by_cases h1 : i < 0
  · refine zt (pc' := 1) zdQ_78_0 zm_78 rfl rfl ?_
    refine zt (pc' := 2) zdQ_78_1 zm_78 rfl rfl ?_
    refine zt_V (pc' := 5) zdQ_78_2 zm_78 rfl zq_6_82 rfl (Nat.le_of_ble_eq_true rfl) zx4_1 zqv_6_82_4 (by decide) rfl (hm) ?_
    refine zt (pc' := 7) zdQ_78_5 zm_78 rfl rfl ?_
    show zev _ _ _ [_, _, _, _, _] _ _ _ _
    refine zt (pc' := 9) zdQ_78_7 zm_78 rfl rfl ?_
    refine zt (pc' := 15) zdQ_78_9 zm_78 rfl rfl ?_
    refine zt (pc' := 16) zdQ_78_15 zm_78 rfl rfl ?_
    refine zt_ifT (tgt := 35) (pc' := 19) zdQ_78_16 zm_78 rfl rfl (zlt h1) ?_
    refine zt (pc' := 36) zdQ_78_35 zm_78 rfl rfl ?_
    exact zte zdQ_78_36 zm_78 rfl
  · by_cases h2 : 12 < i
    · refine zt (pc' := 1) zdQ_78_0 zm_78 rfl rfl ?_
      refine zt (pc' := 2) zdQ_78_1 zm_78 rfl rfl ?_
      refine zt_V (pc' := 5) zdQ_78_2 zm_78 rfl zq_6_82 rfl (Nat.le_of_ble_eq_true rfl) zx4_1 zqv_6_82_4 (by decide) rfl (hm) ?_
      refine zt (pc' := 7) zdQ_78_5 zm_78 rfl rfl ?_
      show zev _ _ _ [_, _, _, _, _] _ _ _ _
      refine zt (pc' := 9) zdQ_78_7 zm_78 rfl rfl ?_
      refine zt (pc' := 15) zdQ_78_9 zm_78 rfl rfl ?_
      refine zt (pc' := 16) zdQ_78_15 zm_78 rfl rfl ?_
      refine zt_ifF (tgt := 35) (pc' := 19) zdQ_78_16 zm_78 rfl rfl (znlt h1) ?_
      refine zt (pc' := 20) zdQ_78_19 zm_78 rfl rfl ?_
      refine zt (pc' := 22) zdQ_78_20 zm_78 rfl rfl ?_
      refine zt_icT (tgt := 35) (pc' := 25) zdQ_78_22 zm_78 rfl rfl (zgt h2) ?_
      refine zt (pc' := 36) zdQ_78_35 zm_78 rfl rfl ?_
      exact zte zdQ_78_36 zm_78 rfl
    · by_cases h3 : j < 0
      · refine zt (pc' := 1) zdQ_78_0 zm_78 rfl rfl ?_
        refine zt (pc' := 2) zdQ_78_1 zm_78 rfl rfl ?_
        refine zt_V (pc' := 5) zdQ_78_2 zm_78 rfl zq_6_82 rfl (Nat.le_of_ble_eq_true rfl) zx4_1 zqv_6_82_4 (by decide) rfl (hm) ?_
        refine zt (pc' := 7) zdQ_78_5 zm_78 rfl rfl ?_
        show zev _ _ _ [_, _, _, _, _] _ _ _ _
        refine zt (pc' := 9) zdQ_78_7 zm_78 rfl rfl ?_
        refine zt (pc' := 15) zdQ_78_9 zm_78 rfl rfl ?_
        refine zt (pc' := 16) zdQ_78_15 zm_78 rfl rfl ?_
        refine zt_ifF (tgt := 35) (pc' := 19) zdQ_78_16 zm_78 rfl rfl (znlt h1) ?_
        refine zt (pc' := 20) zdQ_78_19 zm_78 rfl rfl ?_
        refine zt (pc' := 22) zdQ_78_20 zm_78 rfl rfl ?_
        refine zt_icF (tgt := 35) (pc' := 25) zdQ_78_22 zm_78 rfl rfl (zngt h2) ?_
        refine zt (pc' := 26) zdQ_78_25 zm_78 rfl rfl ?_
        refine zt_ifT (tgt := 35) (pc' := 29) zdQ_78_26 zm_78 rfl rfl (zlt h3) ?_
        refine zt (pc' := 36) zdQ_78_35 zm_78 rfl rfl ?_
        exact zte zdQ_78_36 zm_78 rfl
      · have h4 : ¬ j ≤ 12 := by
          rcases h with h | h | h | h
          · exact absurd h h1
          · exact absurd h h2
          · exact absurd h h3
          · exact Int32.not_le.mpr h
        refine zt (pc' := 1) zdQ_78_0 zm_78 rfl rfl ?_
        refine zt (pc' := 2) zdQ_78_1 zm_78 rfl rfl ?_
        refine zt_V (pc' := 5) zdQ_78_2 zm_78 rfl zq_6_82 rfl (Nat.le_of_ble_eq_true rfl) zx4_1 zqv_6_82_4 (by decide) rfl (hm) ?_
        refine zt (pc' := 7) zdQ_78_5 zm_78 rfl rfl ?_
        show zev _ _ _ [_, _, _, _, _] _ _ _ _
        refine zt (pc' := 9) zdQ_78_7 zm_78 rfl rfl ?_
        refine zt (pc' := 15) zdQ_78_9 zm_78 rfl rfl ?_
        refine zt (pc' := 16) zdQ_78_15 zm_78 rfl rfl ?_
        refine zt_ifF (tgt := 35) (pc' := 19) zdQ_78_16 zm_78 rfl rfl (znlt h1) ?_
        refine zt (pc' := 20) zdQ_78_19 zm_78 rfl rfl ?_
        refine zt (pc' := 22) zdQ_78_20 zm_78 rfl rfl ?_
        refine zt_icF (tgt := 35) (pc' := 25) zdQ_78_22 zm_78 rfl rfl (zngt h2) ?_
        refine zt (pc' := 26) zdQ_78_25 zm_78 rfl rfl ?_
        refine zt_ifF (tgt := 35) (pc' := 29) zdQ_78_26 zm_78 rfl rfl (znlt h3) ?_
        refine zt (pc' := 30) zdQ_78_29 zm_78 rfl rfl ?_
        refine zt (pc' := 32) zdQ_78_30 zm_78 rfl rfl ?_
        refine zt_icF (tgt := 37) (pc' := 35) zdQ_78_32 zm_78 rfl rfl (znle h4) ?_
        refine zt (pc' := 36) zdQ_78_35 zm_78 rfl rfl ?_
        exact zte zdQ_78_36 zm_78 rfl
theorem zr_co_0 {w1 w2 : zW} {za : Nat} {s i j v : Int32} (hm : zmet 39 91 [.ref 1, .int s] zx4 (some (.ref za)) w1) {g1 : List Value} (z1 : w1.1 za = some (.inr (0, .ref 2 :: g1))) (h1 : ¬ i < 0) (h2 : ¬ 12 < i) (h3 : ¬ j < 0) (h4 : j ≤ 12) (hc : zmet 39 27 [.ref za, .int i, .int j] w1 (some (.int v)) w2) : zmet (40) 78 [.ref 1, .int s, .int i, .int j] zx4 (some (.int v)) w2 := by
  refine ⟨_, rfl, Nat.le_of_ble_eq_true rfl, ?_⟩
  show zev (40) 78 0 [some (.ref 1), some (.int s), some (.int i), some (.int j), none] [] zx4 _ _
  refine zt (pc' := 1) zdQ_78_0 zm_78 rfl rfl ?_
  refine zt (pc' := 2) zdQ_78_1 zm_78 rfl rfl ?_
  refine zt_V (pc' := 5) zdQ_78_2 zm_78 rfl zq_6_82 rfl (Nat.le_of_ble_eq_true rfl) zx4_1 zqv_6_82_4 (by decide) rfl (hm) ?_
  refine zt (pc' := 7) zdQ_78_5 zm_78 rfl rfl ?_
  show zev _ _ _ [_, _, _, _, _] _ _ _ _
  refine zt (pc' := 9) zdQ_78_7 zm_78 rfl rfl ?_
  refine zt (pc' := 15) zdQ_78_9 zm_78 rfl rfl ?_
  refine zt (pc' := 16) zdQ_78_15 zm_78 rfl rfl ?_
  refine zt_ifF (tgt := 35) (pc' := 19) zdQ_78_16 zm_78 rfl rfl (znlt h1) ?_
  refine zt (pc' := 20) zdQ_78_19 zm_78 rfl rfl ?_
  refine zt (pc' := 22) zdQ_78_20 zm_78 rfl rfl ?_
  refine zt_icF (tgt := 35) (pc' := 25) zdQ_78_22 zm_78 rfl rfl (zngt h2) ?_
  refine zt (pc' := 26) zdQ_78_25 zm_78 rfl rfl ?_
  refine zt_ifF (tgt := 35) (pc' := 29) zdQ_78_26 zm_78 rfl rfl (znlt h3) ?_
  refine zt (pc' := 30) zdQ_78_29 zm_78 rfl rfl ?_
  refine zt (pc' := 32) zdQ_78_30 zm_78 rfl rfl ?_
  refine zt_icT (tgt := 37) (pc' := 35) zdQ_78_32 zm_78 rfl rfl (zle' h4) ?_
  refine zt (pc' := 39) zdQ_78_37 zm_78 rfl rfl ?_
  refine zt (pc' := 40) zdQ_78_39 zm_78 rfl rfl ?_
  refine zt (pc' := 41) zdQ_78_40 zm_78 rfl rfl ?_
  refine zt_V (pc' := 44) zdQ_78_41 zm_78 rfl zq_6_119 rfl (Nat.le_of_ble_eq_true rfl) z1 zqv_6_119_0 (by decide) rfl (hc) ?_
  exact zte zdQ_78_44 zm_78 rfl
theorem zr_co_2 {w1 w2 : zW} {za : Nat} {s i j v : Int32} (hm : zmet 39 91 [.ref 1, .int s] zx4 (some (.ref za)) w1) {g1 : List Value} (z1 : w1.1 za = some (.inr (2, .ref 2 :: g1))) (h1 : ¬ i < 0) (h2 : ¬ 12 < i) (h3 : ¬ j < 0) (h4 : j ≤ 12) (hc : zmet 39 27 [.ref za, .int i, .int j] w1 (some (.int v)) w2) : zmet (40) 78 [.ref 1, .int s, .int i, .int j] zx4 (some (.int v)) w2 := by
  refine ⟨_, rfl, Nat.le_of_ble_eq_true rfl, ?_⟩
  show zev (40) 78 0 [some (.ref 1), some (.int s), some (.int i), some (.int j), none] [] zx4 _ _
  refine zt (pc' := 1) zdQ_78_0 zm_78 rfl rfl ?_
  refine zt (pc' := 2) zdQ_78_1 zm_78 rfl rfl ?_
  refine zt_V (pc' := 5) zdQ_78_2 zm_78 rfl zq_6_82 rfl (Nat.le_of_ble_eq_true rfl) zx4_1 zqv_6_82_4 (by decide) rfl (hm) ?_
  refine zt (pc' := 7) zdQ_78_5 zm_78 rfl rfl ?_
  show zev _ _ _ [_, _, _, _, _] _ _ _ _
  refine zt (pc' := 9) zdQ_78_7 zm_78 rfl rfl ?_
  refine zt (pc' := 15) zdQ_78_9 zm_78 rfl rfl ?_
  refine zt (pc' := 16) zdQ_78_15 zm_78 rfl rfl ?_
  refine zt_ifF (tgt := 35) (pc' := 19) zdQ_78_16 zm_78 rfl rfl (znlt h1) ?_
  refine zt (pc' := 20) zdQ_78_19 zm_78 rfl rfl ?_
  refine zt (pc' := 22) zdQ_78_20 zm_78 rfl rfl ?_
  refine zt_icF (tgt := 35) (pc' := 25) zdQ_78_22 zm_78 rfl rfl (zngt h2) ?_
  refine zt (pc' := 26) zdQ_78_25 zm_78 rfl rfl ?_
  refine zt_ifF (tgt := 35) (pc' := 29) zdQ_78_26 zm_78 rfl rfl (znlt h3) ?_
  refine zt (pc' := 30) zdQ_78_29 zm_78 rfl rfl ?_
  refine zt (pc' := 32) zdQ_78_30 zm_78 rfl rfl ?_
  refine zt_icT (tgt := 37) (pc' := 35) zdQ_78_32 zm_78 rfl rfl (zle' h4) ?_
  refine zt (pc' := 39) zdQ_78_37 zm_78 rfl rfl ?_
  refine zt (pc' := 40) zdQ_78_39 zm_78 rfl rfl ?_
  refine zt (pc' := 41) zdQ_78_40 zm_78 rfl rfl ?_
  refine zt_V (pc' := 44) zdQ_78_41 zm_78 rfl zq_6_119 rfl (Nat.le_of_ble_eq_true rfl) z1 zqv_6_119_2 (by decide) rfl (hc) ?_
  exact zte zdQ_78_44 zm_78 rfl
theorem zr_inc : ∀ q, q < 13 → Int32.ofNat q + 1 = Int32.ofNat (q + 1) := by decide +kernel
theorem zr_g0 : ∀ q, q < 13 → ¬ (12 : Int32) < Int32.ofNat q := by decide +kernel
theorem zr_ix : ∀ p, p < 13 → ∀ q, q < 13 → zbd (Int32.ofNat p * 13 + Int32.ofNat q) 169 = true ∧ (Int32.ofNat p * 13 + Int32.ofNat q).toNatClampNeg = p * 13 + q := by decide +kernel
theorem zr_cg {d : Nat} {w w' : zW} {r : Option Value} {z i j p x6 x7 : Option Value} {a a' b b' : Int32} (ha : a = a') (hb : b = b') (h : zev d 27 19 [z, i, j, some (.int a'), p, some (.int b'), x6, x7] [] w r w') : zev d 27 19 [z, i, j, some (.int a), p, some (.int b), x6, x7] [] w r w' := by
  subst ha
  subst hb
  exact h
theorem zr_cg2 {d : Nat} {w w' : zW} {r : Option Value} {z i j m x5 x6 x7 : Option Value} {a a' : Int32} (ha : a = a') (h : zev d 27 9 [z, i, j, m, some (.int a'), x5, x6, x7] [] w r w') : zev d 27 9 [z, i, j, m, some (.int a), x5, x6, x7] [] w r w' := by
  subst ha
  exact h
theorem zr_n0 (x : Int32) : x + -(0 : Int32) = x := by
  rw [show -(0 : Int32) = 0 by decide, Int32.add_zero]
set_option maxHeartbeats 8000000 in
theorem zr_in_0 {d : Nat} {w w' : zW} {r : Option Value} {za ta p : Nat} {i j sm : Int32} {f : Nat → Int32} {a1 a2 a3 : Value} {g : List Value} (z : w.1 za = some (.inr (0, .ref 2 :: a1 :: a2 :: a3 :: .ref ta :: g))) (A : w.1 ta = some (.inl (0, 169, .inl f))) (hf : ∀ n, n < 168 → f (n + 1) = 0) (hp : p < 13) (kk : ∀ x5 x6 x7 : Option Value, zev d 27 99 [some (.ref za), some (.int i), some (.int j), some (.int sm), some (.int (Int32.ofNat p)), x5, x6, x7] [] w r w') : ∀ (m q : Nat), q + m = 13 → (0 < p ∨ 0 < q) → ∀ x6 x7 : Option Value, zev d 27 19 [some (.ref za), some (.int i), some (.int j), some (.int sm), some (.int (Int32.ofNat p)), some (.int (Int32.ofNat q)), x6, x7] [] w r w'
  | 0, q, hqm, hpq, x6, x7 => by
    have e : q = 13 := by omega
    subst e
    refine zt (pc' := 21) zdQ_27_19 zm_27 rfl rfl ?_
    refine zt (pc' := 23) zdQ_27_21 zm_27 rfl rfl ?_
    refine zt_icT (tgt := 99) (pc' := 26) zdQ_27_23 zm_27 rfl rfl (zgt (by decide)) ?_
    exact kk _ _ _
  | m + 1, q, hqm, hpq, x6, x7 => by
    have hq : q < 13 := by omega
    have hv : f (Int32.ofNat p * 13 + Int32.ofNat q).toNatClampNeg = 0 := by
      rw [(zr_ix p hp q hq).2]
      have e : p * 13 + q = (p * 13 + q - 1) + 1 := by omega
      rw [e]
      exact hf _ (by omega)
    have ih := zr_in_0 z A hf hp kk m (q + 1) (by omega) (Or.inr (by omega))
    refine zt (pc' := 21) zdQ_27_19 zm_27 rfl rfl ?_
    refine zt (pc' := 23) zdQ_27_21 zm_27 rfl rfl ?_
    refine zt_icF (tgt := 99) (pc' := 26) zdQ_27_23 zm_27 rfl rfl (zngt (zr_g0 q hq)) ?_
    refine zt (pc' := 27) zdQ_27_26 zm_27 rfl rfl ?_
    refine zt_get (pc' := 30) zdQ_27_27 zm_27 rfl rfl z (by decide) rfl ?_
    refine zt (pc' := 32) zdQ_27_30 zm_27 rfl rfl ?_
    refine zt (pc' := 34) zdQ_27_32 zm_27 rfl rfl ?_
    refine zt (pc' := 35) zdQ_27_34 zm_27 rfl rfl ?_
    refine zt (pc' := 37) zdQ_27_35 zm_27 rfl rfl ?_
    refine zt (pc' := 38) zdQ_27_37 zm_27 rfl rfl ?_
    refine zt_ial (pc' := 39) zdQ_27_38 zm_27 rfl A (zr_ix p hp q hq).1 ?_
    refine zt (pc' := 41) zdQ_27_39 zm_27 rfl rfl ?_
    show zev _ _ _ [_, _, _, _, _, _, _, _] _ _ _ _
    refine zt (pc' := 43) zdQ_27_41 zm_27 rfl rfl ?_
    refine zt_ifF (tgt := 50) (pc' := 46) zdQ_27_43 zm_27 rfl rfl (znne hv) ?_
    refine zt (pc' := 47) zdQ_27_46 zm_27 rfl rfl ?_
    refine zt (pc' := 66) zdQ_27_47 zm_27 rfl rfl ?_
    refine zt (pc' := 68) zdQ_27_66 zm_27 rfl rfl ?_
    show zev _ _ _ [_, _, _, _, _, _, _, _] _ _ _ _
    refine zt (pc' := 69) zdQ_27_68 zm_27 rfl rfl ?_
    refine zt (pc' := 71) zdQ_27_69 zm_27 rfl rfl ?_
    refine zt (pc' := 72) zdQ_27_71 zm_27 rfl rfl ?_
    refine zt (pc' := 73) zdQ_27_72 zm_27 rfl rfl ?_
    refine zt (pc' := 75) zdQ_27_73 zm_27 rfl rfl ?_
    refine zt (pc' := 76) zdQ_27_75 zm_27 rfl rfl ?_
    refine zt (pc' := 77) zdQ_27_76 zm_27 rfl rfl ?_
    refine zt (pc' := 78) zdQ_27_77 zm_27 rfl rfl ?_
    refine zt (pc' := 79) zdQ_27_78 zm_27 rfl rfl ?_
    refine zt (pc' := 80) zdQ_27_79 zm_27 rfl rfl ?_
    refine zt_ifB (tgt := 88) (pc' := 83) zdQ_27_80 zm_27 rfl rfl ?_ ?_
    · refine zt (pc' := 90) zdQ_27_88 zm_27 rfl rfl ?_
      refine zt (pc' := 91) zdQ_27_90 zm_27 rfl rfl ?_
      refine zt (pc' := 92) zdQ_27_91 zm_27 rfl rfl ?_
      refine zt (pc' := 93) zdQ_27_92 zm_27 rfl rfl ?_
      show zev _ _ _ [_, _, _, _, _, _, _, _] _ _ _ _
      refine zt (pc' := 96) zdQ_27_93 zm_27 rfl rfl ?_
      show zev _ _ _ [_, _, _, _, _, _, _, _] _ _ _ _
      refine zt (pc' := 19) zdQ_27_96 zm_27 rfl rfl ?_
      exact zr_cg (zr_n0 sm) (zr_inc q hq) (ih _ _)
    · refine zt (pc' := 85) zdQ_27_83 zm_27 rfl rfl ?_
      refine zt (pc' := 91) zdQ_27_85 zm_27 rfl rfl ?_
      refine zt (pc' := 92) zdQ_27_91 zm_27 rfl rfl ?_
      refine zt (pc' := 93) zdQ_27_92 zm_27 rfl rfl ?_
      show zev _ _ _ [_, _, _, _, _, _, _, _] _ _ _ _
      refine zt (pc' := 96) zdQ_27_93 zm_27 rfl rfl ?_
      show zev _ _ _ [_, _, _, _, _, _, _, _] _ _ _ _
      refine zt (pc' := 19) zdQ_27_96 zm_27 rfl rfl ?_
      exact zr_cg (Int32.add_zero sm) (zr_inc q hq) (ih _ _)
theorem zr_out_0 {d : Nat} {w : zW} {za ta jn : Nat} {i sm : Int32} {f : Nat → Int32} {a1 a2 a3 : Value} {g : List Value} (z : w.1 za = some (.inr (0, .ref 2 :: a1 :: a2 :: a3 :: .ref ta :: g))) (A : w.1 ta = some (.inl (0, 169, .inl f))) (hf : ∀ n, n < 168 → f (n + 1) = 0) (hj : jn < 13) : ∀ (m p : Nat), p + m = 13 → (0 < p ∨ 0 < jn) → ∀ x5 x6 x7 : Option Value, zev d 27 9 [some (.ref za), some (.int i), some (.int (Int32.ofNat jn)), some (.int sm), some (.int (Int32.ofNat p)), x5, x6, x7] [] w (some (.int sm)) w
  | 0, p, hpm, hpj, x5, x6, x7 => by
    have e : p = 13 := by omega
    subst e
    refine zt (pc' := 11) zdQ_27_9 zm_27 rfl rfl ?_
    refine zt (pc' := 13) zdQ_27_11 zm_27 rfl rfl ?_
    refine zt_icT (tgt := 105) (pc' := 16) zdQ_27_13 zm_27 rfl rfl (zgt (by decide)) ?_
    refine zt (pc' := 106) zdQ_27_105 zm_27 rfl rfl ?_
    exact zte zdQ_27_106 zm_27 rfl
  | m + 1, p, hpm, hpj, x5, x6, x7 => by
    have hp : p < 13 := by omega
    have ih := zr_out_0 (d := d) (i := i) (sm := sm) z A hf hj m (p + 1) (by omega) (Or.inl (by omega))
    refine zt (pc' := 11) zdQ_27_9 zm_27 rfl rfl ?_
    refine zt (pc' := 13) zdQ_27_11 zm_27 rfl rfl ?_
    refine zt_icF (tgt := 105) (pc' := 16) zdQ_27_13 zm_27 rfl rfl (zngt (zr_g0 p hp)) ?_
    refine zt (pc' := 17) zdQ_27_16 zm_27 rfl rfl ?_
    refine zt (pc' := 19) zdQ_27_17 zm_27 rfl rfl ?_
    show zev _ _ _ [_, _, _, _, _, _, _, _] _ _ _ _
    refine zr_in_0 z A hf hp (fun x5 x6 x7 => ?_) (13 - jn) jn (by omega) hpj _ _
    refine zt (pc' := 102) zdQ_27_99 zm_27 rfl rfl ?_
    show zev _ _ _ [_, _, _, _, _, _, _, _] _ _ _ _
    refine zt (pc' := 9) zdQ_27_102 zm_27 rfl rfl ?_
    exact zr_cg2 (zr_inc p hp) (ih _ _ _)
theorem zr_coA_0 {d : Nat} {w1 w : zW} {za ta ni jn : Nat} {f : Nat → Int32} {a1 a2 a3 : Value} {g : List Value} {g1 : List Value} (z1 : w1.1 za = some (.inr (0, .ref 2 :: g1))) (ht : zmet d 47 [.ref za] w1 none w) (z : w.1 za = some (.inr (0, .ref 2 :: a1 :: a2 :: a3 :: .ref ta :: g))) (A : w.1 ta = some (.inl (0, 169, .inl f))) (hf : ∀ n, n < 168 → f (n + 1) = 0) (hi : ni < 13) (hj : jn < 13) (hn : 0 < ni ∨ 0 < jn) : zmet (d + 1) 27 [.ref za, .int (Int32.ofNat ni), .int (Int32.ofNat jn)] w1 (some (.int 0)) w := by
  refine ⟨_, rfl, Nat.le_of_ble_eq_true rfl, ?_⟩
  show zev (d + 1) 27 0 [some (.ref za), some (.int (Int32.ofNat ni)), some (.int (Int32.ofNat jn)), none, none, none, none, none] [] w1 _ _
  refine zt (pc' := 1) zdQ_27_0 zm_27 rfl rfl ?_
  refine zt_V (pc' := 4) zdQ_27_1 zm_27 rfl zq_2_99 rfl (Nat.le_of_ble_eq_true rfl) z1 zqv_2_99_0 (by decide) rfl (ht) ?_
  refine zt (pc' := 5) zdQ_27_4 zm_27 rfl rfl ?_
  refine zt (pc' := 6) zdQ_27_5 zm_27 rfl rfl ?_
  show zev _ _ _ [_, _, _, _, _, _, _, _] _ _ _ _
  refine zt (pc' := 7) zdQ_27_6 zm_27 rfl rfl ?_
  refine zt (pc' := 9) zdQ_27_7 zm_27 rfl rfl ?_
  show zev _ _ _ [_, _, _, _, _, _, _, _] _ _ _ _
  exact zr_out_0 z A hf hj (13 - ni) ni (by omega) hn _ _ _
set_option maxHeartbeats 8000000 in
theorem zr_in_2 {d : Nat} {w w' : zW} {r : Option Value} {za ta p : Nat} {i j sm : Int32} {f : Nat → Int32} {a1 a2 a3 : Value} {g : List Value} (z : w.1 za = some (.inr (2, .ref 2 :: a1 :: a2 :: a3 :: .ref ta :: g))) (A : w.1 ta = some (.inl (0, 169, .inl f))) (hf : ∀ n, n < 168 → f (n + 1) = 0) (hp : p < 13) (kk : ∀ x5 x6 x7 : Option Value, zev d 27 99 [some (.ref za), some (.int i), some (.int j), some (.int sm), some (.int (Int32.ofNat p)), x5, x6, x7] [] w r w') : ∀ (m q : Nat), q + m = 13 → (0 < p ∨ 0 < q) → ∀ x6 x7 : Option Value, zev d 27 19 [some (.ref za), some (.int i), some (.int j), some (.int sm), some (.int (Int32.ofNat p)), some (.int (Int32.ofNat q)), x6, x7] [] w r w'
  | 0, q, hqm, hpq, x6, x7 => by
    have e : q = 13 := by omega
    subst e
    refine zt (pc' := 21) zdQ_27_19 zm_27 rfl rfl ?_
    refine zt (pc' := 23) zdQ_27_21 zm_27 rfl rfl ?_
    refine zt_icT (tgt := 99) (pc' := 26) zdQ_27_23 zm_27 rfl rfl (zgt (by decide)) ?_
    exact kk _ _ _
  | m + 1, q, hqm, hpq, x6, x7 => by
    have hq : q < 13 := by omega
    have hv : f (Int32.ofNat p * 13 + Int32.ofNat q).toNatClampNeg = 0 := by
      rw [(zr_ix p hp q hq).2]
      have e : p * 13 + q = (p * 13 + q - 1) + 1 := by omega
      rw [e]
      exact hf _ (by omega)
    have ih := zr_in_2 z A hf hp kk m (q + 1) (by omega) (Or.inr (by omega))
    refine zt (pc' := 21) zdQ_27_19 zm_27 rfl rfl ?_
    refine zt (pc' := 23) zdQ_27_21 zm_27 rfl rfl ?_
    refine zt_icF (tgt := 99) (pc' := 26) zdQ_27_23 zm_27 rfl rfl (zngt (zr_g0 q hq)) ?_
    refine zt (pc' := 27) zdQ_27_26 zm_27 rfl rfl ?_
    refine zt_get (pc' := 30) zdQ_27_27 zm_27 rfl rfl z (by decide) rfl ?_
    refine zt (pc' := 32) zdQ_27_30 zm_27 rfl rfl ?_
    refine zt (pc' := 34) zdQ_27_32 zm_27 rfl rfl ?_
    refine zt (pc' := 35) zdQ_27_34 zm_27 rfl rfl ?_
    refine zt (pc' := 37) zdQ_27_35 zm_27 rfl rfl ?_
    refine zt (pc' := 38) zdQ_27_37 zm_27 rfl rfl ?_
    refine zt_ial (pc' := 39) zdQ_27_38 zm_27 rfl A (zr_ix p hp q hq).1 ?_
    refine zt (pc' := 41) zdQ_27_39 zm_27 rfl rfl ?_
    show zev _ _ _ [_, _, _, _, _, _, _, _] _ _ _ _
    refine zt (pc' := 43) zdQ_27_41 zm_27 rfl rfl ?_
    refine zt_ifF (tgt := 50) (pc' := 46) zdQ_27_43 zm_27 rfl rfl (znne hv) ?_
    refine zt (pc' := 47) zdQ_27_46 zm_27 rfl rfl ?_
    refine zt (pc' := 66) zdQ_27_47 zm_27 rfl rfl ?_
    refine zt (pc' := 68) zdQ_27_66 zm_27 rfl rfl ?_
    show zev _ _ _ [_, _, _, _, _, _, _, _] _ _ _ _
    refine zt (pc' := 69) zdQ_27_68 zm_27 rfl rfl ?_
    refine zt (pc' := 71) zdQ_27_69 zm_27 rfl rfl ?_
    refine zt (pc' := 72) zdQ_27_71 zm_27 rfl rfl ?_
    refine zt (pc' := 73) zdQ_27_72 zm_27 rfl rfl ?_
    refine zt (pc' := 75) zdQ_27_73 zm_27 rfl rfl ?_
    refine zt (pc' := 76) zdQ_27_75 zm_27 rfl rfl ?_
    refine zt (pc' := 77) zdQ_27_76 zm_27 rfl rfl ?_
    refine zt (pc' := 78) zdQ_27_77 zm_27 rfl rfl ?_
    refine zt (pc' := 79) zdQ_27_78 zm_27 rfl rfl ?_
    refine zt (pc' := 80) zdQ_27_79 zm_27 rfl rfl ?_
    refine zt_ifB (tgt := 88) (pc' := 83) zdQ_27_80 zm_27 rfl rfl ?_ ?_
    · refine zt (pc' := 90) zdQ_27_88 zm_27 rfl rfl ?_
      refine zt (pc' := 91) zdQ_27_90 zm_27 rfl rfl ?_
      refine zt (pc' := 92) zdQ_27_91 zm_27 rfl rfl ?_
      refine zt (pc' := 93) zdQ_27_92 zm_27 rfl rfl ?_
      show zev _ _ _ [_, _, _, _, _, _, _, _] _ _ _ _
      refine zt (pc' := 96) zdQ_27_93 zm_27 rfl rfl ?_
      show zev _ _ _ [_, _, _, _, _, _, _, _] _ _ _ _
      refine zt (pc' := 19) zdQ_27_96 zm_27 rfl rfl ?_
      exact zr_cg (zr_n0 sm) (zr_inc q hq) (ih _ _)
    · refine zt (pc' := 85) zdQ_27_83 zm_27 rfl rfl ?_
      refine zt (pc' := 91) zdQ_27_85 zm_27 rfl rfl ?_
      refine zt (pc' := 92) zdQ_27_91 zm_27 rfl rfl ?_
      refine zt (pc' := 93) zdQ_27_92 zm_27 rfl rfl ?_
      show zev _ _ _ [_, _, _, _, _, _, _, _] _ _ _ _
      refine zt (pc' := 96) zdQ_27_93 zm_27 rfl rfl ?_
      show zev _ _ _ [_, _, _, _, _, _, _, _] _ _ _ _
      refine zt (pc' := 19) zdQ_27_96 zm_27 rfl rfl ?_
      exact zr_cg (Int32.add_zero sm) (zr_inc q hq) (ih _ _)
theorem zr_out_2 {d : Nat} {w : zW} {za ta jn : Nat} {i sm : Int32} {f : Nat → Int32} {a1 a2 a3 : Value} {g : List Value} (z : w.1 za = some (.inr (2, .ref 2 :: a1 :: a2 :: a3 :: .ref ta :: g))) (A : w.1 ta = some (.inl (0, 169, .inl f))) (hf : ∀ n, n < 168 → f (n + 1) = 0) (hj : jn < 13) : ∀ (m p : Nat), p + m = 13 → (0 < p ∨ 0 < jn) → ∀ x5 x6 x7 : Option Value, zev d 27 9 [some (.ref za), some (.int i), some (.int (Int32.ofNat jn)), some (.int sm), some (.int (Int32.ofNat p)), x5, x6, x7] [] w (some (.int sm)) w
  | 0, p, hpm, hpj, x5, x6, x7 => by
    have e : p = 13 := by omega
    subst e
    refine zt (pc' := 11) zdQ_27_9 zm_27 rfl rfl ?_
    refine zt (pc' := 13) zdQ_27_11 zm_27 rfl rfl ?_
    refine zt_icT (tgt := 105) (pc' := 16) zdQ_27_13 zm_27 rfl rfl (zgt (by decide)) ?_
    refine zt (pc' := 106) zdQ_27_105 zm_27 rfl rfl ?_
    exact zte zdQ_27_106 zm_27 rfl
  | m + 1, p, hpm, hpj, x5, x6, x7 => by
    have hp : p < 13 := by omega
    have ih := zr_out_2 (d := d) (i := i) (sm := sm) z A hf hj m (p + 1) (by omega) (Or.inl (by omega))
    refine zt (pc' := 11) zdQ_27_9 zm_27 rfl rfl ?_
    refine zt (pc' := 13) zdQ_27_11 zm_27 rfl rfl ?_
    refine zt_icF (tgt := 105) (pc' := 16) zdQ_27_13 zm_27 rfl rfl (zngt (zr_g0 p hp)) ?_
    refine zt (pc' := 17) zdQ_27_16 zm_27 rfl rfl ?_
    refine zt (pc' := 19) zdQ_27_17 zm_27 rfl rfl ?_
    show zev _ _ _ [_, _, _, _, _, _, _, _] _ _ _ _
    refine zr_in_2 z A hf hp (fun x5 x6 x7 => ?_) (13 - jn) jn (by omega) hpj _ _
    refine zt (pc' := 102) zdQ_27_99 zm_27 rfl rfl ?_
    show zev _ _ _ [_, _, _, _, _, _, _, _] _ _ _ _
    refine zt (pc' := 9) zdQ_27_102 zm_27 rfl rfl ?_
    exact zr_cg2 (zr_inc p hp) (ih _ _ _)
theorem zr_coA_2 {d : Nat} {w1 w : zW} {za ta ni jn : Nat} {f : Nat → Int32} {a1 a2 a3 : Value} {g : List Value} {g1 : List Value} (z1 : w1.1 za = some (.inr (2, .ref 2 :: g1))) (ht : zmet d 47 [.ref za] w1 none w) (z : w.1 za = some (.inr (2, .ref 2 :: a1 :: a2 :: a3 :: .ref ta :: g))) (A : w.1 ta = some (.inl (0, 169, .inl f))) (hf : ∀ n, n < 168 → f (n + 1) = 0) (hi : ni < 13) (hj : jn < 13) (hn : 0 < ni ∨ 0 < jn) : zmet (d + 1) 27 [.ref za, .int (Int32.ofNat ni), .int (Int32.ofNat jn)] w1 (some (.int 0)) w := by
  refine ⟨_, rfl, Nat.le_of_ble_eq_true rfl, ?_⟩
  show zev (d + 1) 27 0 [some (.ref za), some (.int (Int32.ofNat ni)), some (.int (Int32.ofNat jn)), none, none, none, none, none] [] w1 _ _
  refine zt (pc' := 1) zdQ_27_0 zm_27 rfl rfl ?_
  refine zt_V (pc' := 4) zdQ_27_1 zm_27 rfl zq_2_99 rfl (Nat.le_of_ble_eq_true rfl) z1 zqv_2_99_2 (by decide) rfl (ht) ?_
  refine zt (pc' := 5) zdQ_27_4 zm_27 rfl rfl ?_
  refine zt (pc' := 6) zdQ_27_5 zm_27 rfl rfl ?_
  show zev _ _ _ [_, _, _, _, _, _, _, _] _ _ _ _
  refine zt (pc' := 7) zdQ_27_6 zm_27 rfl rfl ?_
  refine zt (pc' := 9) zdQ_27_7 zm_27 rfl rfl ?_
  show zev _ _ _ [_, _, _, _, _, _, _, _] _ _ _ _
  exact zr_out_2 z A hf hj (13 - ni) ni (by omega) hn _ _ _
theorem zr_ch {d : Nat} {w : zW} : zmet (d) 109 [.int 0, .int 0] w (some (.int 1)) w := by
  refine ⟨_, rfl, Nat.le_of_ble_eq_true rfl, ?_⟩
  show zev (d) 109 0 [some (.int 0), some (.int 0), none, none] [] w _ _
  refine zt (pc' := 1) zdQ_109_0 zm_109 rfl rfl ?_
  refine zt (pc' := 2) zdQ_109_1 zm_109 rfl rfl ?_
  show zev _ _ _ [_, _, _, _] _ _ _ _
  refine zt (pc' := 3) zdQ_109_2 zm_109 rfl rfl ?_
  refine zt (pc' := 4) zdQ_109_3 zm_109 rfl rfl ?_
  show zev _ _ _ [_, _, _, _] _ _ _ _
  refine zt (pc' := 5) zdQ_109_4 zm_109 rfl rfl ?_
  refine zt (pc' := 6) zdQ_109_5 zm_109 rfl rfl ?_
  refine zt_icT (tgt := 25) (pc' := 9) zdQ_109_6 zm_109 rfl rfl (zge (by decide)) ?_
  refine zt (pc' := 26) zdQ_109_25 zm_109 rfl rfl ?_
  exact zte zdQ_109_26 zm_109 rfl
theorem zr_tm0 {d : Nat} {w : zW} {i : Int32} (h : ¬ i ≤ 0) : zmet (d) 164 [.int 0, .int i] w (some (.int 0)) w := by
  refine ⟨_, rfl, Nat.le_of_ble_eq_true rfl, ?_⟩
  show zev (d) 164 0 [some (.int 0), some (.int i)] [] w _ _
  refine zt (pc' := 1) zdQ_164_0 zm_164 rfl rfl ?_
  refine zt (pc' := 2) zdQ_164_1 zm_164 rfl rfl ?_
  refine zt_icF (tgt := 9) (pc' := 5) zdQ_164_2 zm_164 rfl rfl (znle h) ?_
  refine zt (pc' := 6) zdQ_164_5 zm_164 rfl rfl ?_
  refine zt (pc' := 31) zdQ_164_6 zm_164 rfl rfl ?_
  exact zte zdQ_164_31 zm_164 rfl
theorem zr_tm1 {d : Nat} {w : zW} : zmet (d + 1) 164 [.int 0, .int 0] w (some (.int 1)) w := by
  refine ⟨_, rfl, Nat.le_of_ble_eq_true rfl, ?_⟩
  show zev (d + 1) 164 0 [some (.int 0), some (.int 0)] [] w _ _
  refine zt (pc' := 1) zdQ_164_0 zm_164 rfl rfl ?_
  refine zt (pc' := 2) zdQ_164_1 zm_164 rfl rfl ?_
  refine zt_icT (tgt := 9) (pc' := 5) zdQ_164_2 zm_164 rfl rfl (zle' (by decide)) ?_
  refine zt (pc' := 10) zdQ_164_9 zm_164 rfl rfl ?_
  refine zt (pc' := 11) zdQ_164_10 zm_164 rfl rfl ?_
  refine zt (pc' := 12) zdQ_164_11 zm_164 rfl rfl ?_
  refine zt (pc' := 13) zdQ_164_12 zm_164 rfl rfl ?_
  refine zt (pc' := 14) zdQ_164_13 zm_164 rfl rfl ?_
  refine zt_ifF (tgt := 25) (pc' := 17) zdQ_164_14 zm_164 rfl rfl (znne (by decide)) ?_
  refine zt (pc' := 18) zdQ_164_17 zm_164 rfl rfl ?_
  refine zt (pc' := 19) zdQ_164_18 zm_164 rfl rfl ?_
  refine zt_S (pc' := 22) zdQ_164_19 zm_164 rfl zq_7_209 (Nat.le_of_ble_eq_true rfl) (Nat.le_of_ble_eq_true rfl) rfl (zr_ch) ?_
  refine zt (pc' := 31) zdQ_164_22 zm_164 rfl rfl ?_
  exact zte zdQ_164_31 zm_164 rfl
theorem zr_rco0 {w1 : zW} {s i j : Int32} {l1 : Value} {m1 : List Value} (M1 : w1.1 9 = some (.inr (5, .int 1 :: l1 :: .int 0 :: m1))) (hS : zmet 39 138 [.ref 9, .int s] w1 (some (.int 1)) w1) (h : i < 0 ∨ j < 0) : zmet (40) 114 [.ref 9, .int s, .int i, .int j] w1 (some (.int 0)) w1 := by
  refine ⟨_, rfl, Nat.le_of_ble_eq_true rfl, ?_⟩
  show zev (40) 114 0 [some (.ref 9), some (.int s), some (.int i), some (.int j), none, none] [] w1 _ _
  by_cases h1 : i < 0
  · refine zt (pc' := 1) zdQ_114_0 zm_114 rfl rfl ?_
    refine zt (pc' := 2) zdQ_114_1 zm_114 rfl rfl ?_
    refine zt_V (pc' := 5) zdQ_114_2 zm_114 rfl zq_7_158 rfl (Nat.le_of_ble_eq_true rfl) M1 zqv_7_158_5 (by decide) rfl (hS) ?_
    refine zt_ifT (tgt := 11) (pc' := 8) zdQ_114_5 zm_114 rfl rfl (zne (by decide)) ?_
    refine zt (pc' := 12) zdQ_114_11 zm_114 rfl rfl ?_
    refine zt_ifT (tgt := 19) (pc' := 15) zdQ_114_12 zm_114 rfl rfl (zlt h1) ?_
    refine zt (pc' := 20) zdQ_114_19 zm_114 rfl rfl ?_
    exact zte zdQ_114_20 zm_114 rfl
  · have h2 : ¬ (0 : Int32) ≤ j := Int32.not_le.mpr (h.resolve_left h1)
    refine zt (pc' := 1) zdQ_114_0 zm_114 rfl rfl ?_
    refine zt (pc' := 2) zdQ_114_1 zm_114 rfl rfl ?_
    refine zt_V (pc' := 5) zdQ_114_2 zm_114 rfl zq_7_158 rfl (Nat.le_of_ble_eq_true rfl) M1 zqv_7_158_5 (by decide) rfl (hS) ?_
    refine zt_ifT (tgt := 11) (pc' := 8) zdQ_114_5 zm_114 rfl rfl (zne (by decide)) ?_
    refine zt (pc' := 12) zdQ_114_11 zm_114 rfl rfl ?_
    refine zt_ifF (tgt := 19) (pc' := 15) zdQ_114_12 zm_114 rfl rfl (znlt h1) ?_
    refine zt (pc' := 16) zdQ_114_15 zm_114 rfl rfl ?_
    refine zt_ifF (tgt := 21) (pc' := 19) zdQ_114_16 zm_114 rfl rfl (znge h2) ?_
    refine zt (pc' := 20) zdQ_114_19 zm_114 rfl rfl ?_
    exact zte zdQ_114_20 zm_114 rfl
set_option maxHeartbeats 8000000 in
theorem zr_rco {w1 w2 w3 w4 w5 : zW} {s i j a b : Int32} {l1 : Value} {m1 : List Value} (M1 : w1.1 9 = some (.inr (5, .int 1 :: l1 :: .int 0 :: m1))) (hS : zmet 39 138 [.ref 9, .int s] w1 (some (.int 1)) w1) (h1 : ¬ i < 0) (h2 : (0 : Int32) ≤ j) (r1 : zmet 39 156 [.ref 9, .int s, .int 0] w1 (some (.int 0)) w2) {l2 : Value} {m2 : List Value} (M2 : w2.1 9 = some (.inr (5, .int 1 :: l2 :: .int 0 :: m2))) (r2 : zmet 39 156 [.ref 9, .int s, .int 0] w2 (some (.int 0)) w3) (o0 : zmet 39 148 [.int 0] w3 (some (.int 0)) w4) {l4 : Value} {m4 : List Value} (M4 : w4.1 9 = some (.inr (5, .int 1 :: l4 :: .int 0 :: m4))) (r3 : zmet 39 156 [.ref 9, .int s, .int 0] w4 (some (.int 0)) w5) {l5 : Value} {m5 : List Value} (M5 : w5.1 9 = some (.inr (5, .int 1 :: l5 :: .int 0 :: m5))) (ti : ∀ {w : zW}, zmet 39 164 [.int 0, .int i] w (some (.int a)) w) (tj : ∀ {w : zW}, zmet 39 164 [.int 0, .int j] w (some (.int b)) w) : zmet (40) 114 [.ref 9, .int s, .int i, .int j] w1 (some (.int (0 + a * b))) w5 := by
  refine ⟨_, rfl, Nat.le_of_ble_eq_true rfl, ?_⟩
  show zev (40) 114 0 [some (.ref 9), some (.int s), some (.int i), some (.int j), none, none] [] w1 _ _
  refine zt (pc' := 1) zdQ_114_0 zm_114 rfl rfl ?_
  refine zt (pc' := 2) zdQ_114_1 zm_114 rfl rfl ?_
  refine zt_V (pc' := 5) zdQ_114_2 zm_114 rfl zq_7_158 rfl (Nat.le_of_ble_eq_true rfl) M1 zqv_7_158_5 (by decide) rfl (hS) ?_
  refine zt_ifT (tgt := 11) (pc' := 8) zdQ_114_5 zm_114 rfl rfl (zne (by decide)) ?_
  refine zt (pc' := 12) zdQ_114_11 zm_114 rfl rfl ?_
  refine zt_ifF (tgt := 19) (pc' := 15) zdQ_114_12 zm_114 rfl rfl (znlt h1) ?_
  refine zt (pc' := 16) zdQ_114_15 zm_114 rfl rfl ?_
  refine zt_ifT (tgt := 21) (pc' := 19) zdQ_114_16 zm_114 rfl rfl (zge h2) ?_
  refine zt (pc' := 22) zdQ_114_21 zm_114 rfl rfl ?_
  refine zt (pc' := 24) zdQ_114_22 zm_114 rfl rfl ?_
  show zev _ _ _ [_, _, _, _, _, _] _ _ _ _
  refine zt (pc' := 25) zdQ_114_24 zm_114 rfl rfl ?_
  refine zt (pc' := 27) zdQ_114_25 zm_114 rfl rfl ?_
  show zev _ _ _ [_, _, _, _, _, _] _ _ _ _
  refine zt (pc' := 29) zdQ_114_27 zm_114 rfl rfl ?_
  refine zt (pc' := 30) zdQ_114_29 zm_114 rfl rfl ?_
  refine zt_V (pc' := 33) zdQ_114_30 zm_114 rfl zq_7_151 rfl (Nat.le_of_ble_eq_true rfl) M1 zqv_7_151_5 (by decide) rfl (zr_all M1) ?_
  refine zt_icF (tgt := 86) (pc' := 36) zdQ_114_33 zm_114 rfl rfl (zngt (by decide)) ?_
  refine zt (pc' := 38) zdQ_114_36 zm_114 rfl rfl ?_
  refine zt (pc' := 39) zdQ_114_38 zm_114 rfl rfl ?_
  refine zt (pc' := 40) zdQ_114_39 zm_114 rfl rfl ?_
  refine zt (pc' := 41) zdQ_114_40 zm_114 rfl rfl ?_
  refine zt_V (pc' := 44) zdQ_114_41 zm_114 rfl zq_7_151 rfl (Nat.le_of_ble_eq_true rfl) M1 zqv_7_151_5 (by decide) rfl (zr_all M1) ?_
  refine zt_V (pc' := 47) zdQ_114_44 zm_114 rfl zq_7_164 rfl (Nat.le_of_ble_eq_true rfl) M1 zqv_7_164_5 (by decide) rfl (r1) ?_
  refine zt (pc' := 48) zdQ_114_47 zm_114 rfl rfl ?_
  refine zt (pc' := 49) zdQ_114_48 zm_114 rfl rfl ?_
  refine zt (pc' := 51) zdQ_114_49 zm_114 rfl rfl ?_
  refine zt_V (pc' := 54) zdQ_114_51 zm_114 rfl zq_7_164 rfl (Nat.le_of_ble_eq_true rfl) M2 zqv_7_164_5 (by decide) rfl (r2) ?_
  refine zt (pc' := 55) zdQ_114_54 zm_114 rfl rfl ?_
  refine zt (pc' := 56) zdQ_114_55 zm_114 rfl rfl ?_
  refine zt_S (pc' := 59) zdQ_114_56 zm_114 rfl zq_7_212 (Nat.le_of_ble_eq_true rfl) (Nat.le_of_ble_eq_true rfl) rfl (ti) ?_
  refine zt (pc' := 61) zdQ_114_59 zm_114 rfl rfl ?_
  refine zt_S (pc' := 64) zdQ_114_61 zm_114 rfl zq_7_126 (Nat.le_of_ble_eq_true rfl) (Nat.le_of_ble_eq_true rfl) rfl (o0) ?_
  refine zt (pc' := 65) zdQ_114_64 zm_114 rfl rfl ?_
  refine zt (pc' := 66) zdQ_114_65 zm_114 rfl rfl ?_
  refine zt (pc' := 68) zdQ_114_66 zm_114 rfl rfl ?_
  refine zt_V (pc' := 71) zdQ_114_68 zm_114 rfl zq_7_164 rfl (Nat.le_of_ble_eq_true rfl) M4 zqv_7_164_5 (by decide) rfl (r3) ?_
  refine zt (pc' := 72) zdQ_114_71 zm_114 rfl rfl ?_
  refine zt (pc' := 73) zdQ_114_72 zm_114 rfl rfl ?_
  refine zt_S (pc' := 76) zdQ_114_73 zm_114 rfl zq_7_212 (Nat.le_of_ble_eq_true rfl) (Nat.le_of_ble_eq_true rfl) rfl (tj) ?_
  refine zt (pc' := 77) zdQ_114_76 zm_114 rfl rfl ?_
  refine zt (pc' := 78) zdQ_114_77 zm_114 rfl rfl ?_
  refine zt (pc' := 80) zdQ_114_78 zm_114 rfl rfl ?_
  show zev _ _ _ [_, _, _, _, _, _] _ _ _ _
  refine zt (pc' := 83) zdQ_114_80 zm_114 rfl rfl ?_
  show zev _ _ _ [_, _, _, _, _, _] _ _ _ _
  refine zt (pc' := 27) zdQ_114_83 zm_114 rfl rfl ?_
  refine zt (pc' := 29) zdQ_114_27 zm_114 rfl rfl ?_
  refine zt (pc' := 30) zdQ_114_29 zm_114 rfl rfl ?_
  refine zt_V (pc' := 33) zdQ_114_30 zm_114 rfl zq_7_151 rfl (Nat.le_of_ble_eq_true rfl) M5 zqv_7_151_5 (by decide) rfl (zr_all M5) ?_
  refine zt_icT (tgt := 86) (pc' := 36) zdQ_114_33 zm_114 rfl rfl (zgt (by decide)) ?_
  refine zt (pc' := 88) zdQ_114_86 zm_114 rfl rfl ?_
  exact zte zdQ_114_88 zm_114 rfl
theorem zr_tt {i j : Int32} (h1 : ¬ i < 0) (h2 : ¬ j < 0) (h : ¬ (i = 0 ∧ j = 0)) : ∃ a b : Int32, (∀ {w : zW}, zmet 39 164 [.int 0, .int i] w (some (.int a)) w) ∧ (∀ {w : zW}, zmet 39 164 [.int 0, .int j] w (some (.int b)) w) ∧ 0 + a * b = 0 := by
  have pos : ∀ {v : Int32}, ¬ v < 0 → ¬ v = 0 → ¬ v ≤ 0 := by
    intro v a b c
    rw [Int32.lt_iff_toInt_lt] at a
    rw [Int32.le_iff_toInt_le] at c
    have e0 : (0 : Int32).toInt = 0 := rfl
    exact b (Int32.toInt_inj.mp (by omega))
  by_cases hi : i = 0
  · subst hi
    have hj : ¬ j = 0 := fun e => h ⟨rfl, e⟩
    exact ⟨1, 0, zr_tm1, zr_tm0 (pos h2 hj), by decide⟩
  · by_cases hj : j = 0
    · subst hj
      exact ⟨0, 1, zr_tm0 (pos h1 hi), zr_tm1, by decide⟩
    · exact ⟨0, 0, zr_tm0 (pos h1 hi), zr_tm0 (pos h2 hj), by decide⟩
def zkr4 (s : Int32) (w4 : zW) : Bool := match zrunT 1000000 39 156 0 (zin 3 [.ref 9, .int s, .int 0]) [] w4 with
  | some (some (.int 0), w5) => zkM w5 && zRmb w5
  | _ => false
def zkr3 (s : Int32) (w3 : zW) : Bool := match zrunT 1000000 39 148 0 (zin 3 [.int 0]) [] w3 with
  | some (some (.int 0), w4) => zkM w4 && zkr4 s w4
  | _ => false
def zkr2 (s : Int32) (w2 : zW) : Bool := match zrunT 1000000 39 156 0 (zin 3 [.ref 9, .int s, .int 0]) [] w2 with
  | some (some (.int 0), w3) => zkr3 s w3
  | _ => false
def zkr (s : Int32) (w1 : zW) : Bool := match zrunT 1000000 39 156 0 (zin 3 [.ref 9, .int s, .int 0]) [] w1 with
  | some (some (.int 0), w2) => zkM w2 && zkr2 s w2
  | _ => false
theorem zr_R {s i j : Int32} {w1 : zW} {l1 : Value} {m1 : List Value} (M1 : w1.1 9 = some (.inr (5, .int 1 :: l1 :: .int 0 :: m1))) (hS : zmet 39 138 [.ref 9, .int s] w1 (some (.int 1)) w1) (h1 : ¬ i < 0) (h2 : ¬ j < 0) (hn : ¬ (i = 0 ∧ j = 0)) (h : zkr s w1 = true) : ∃ w5 : zW, zmet 40 114 [.ref 9, .int s, .int i, .int j] w1 (some (.int 0)) w5 ∧ zRm w5 := by
  obtain ⟨a, b, ti, tj, e⟩ := zr_tt h1 h2 hn
  unfold zkr at h
  split at h
  · rename_i w2 y1
    simp only [Bool.and_eq_true] at h
    obtain ⟨q1, q2⟩ := h
    unfold zkr2 at q2
    split at q2
    · rename_i w3 y2
      unfold zkr3 at q2
      split at q2
      · rename_i w4 y3
        simp only [Bool.and_eq_true] at q2
        obtain ⟨q3, q4⟩ := q2
        unfold zkr4 at q4
        split at q4
        · rename_i w5 y4
          simp only [Bool.and_eq_true] at q4
          obtain ⟨q5, q6⟩ := q4
          obtain ⟨l2, m2, M2, -⟩ := zkM_ok q1
          obtain ⟨l4, m4, M4, -⟩ := zkM_ok q3
          obtain ⟨l5, m5, M5, -⟩ := zkM_ok q5
          have t := zr_rco (i := i) (j := j) M1 hS h1 (Int32.not_lt.mp h2) ⟨_, zm_156, Nat.le_of_ble_eq_true rfl, _, zrunT_ok _ _ _ _ _ _ _ _ y1⟩ M2 ⟨_, zm_156, Nat.le_of_ble_eq_true rfl, _, zrunT_ok _ _ _ _ _ _ _ _ y2⟩ ⟨_, zm_148, Nat.le_of_ble_eq_true rfl, _, zrunT_ok _ _ _ _ _ _ _ _ y3⟩ M4 ⟨_, zm_156, Nat.le_of_ble_eq_true rfl, _, zrunT_ok _ _ _ _ _ _ _ _ y4⟩ M5 ti tj
          rw [e] at t
          exact ⟨w5, t, zRm_ok q6⟩
        · cases q4
      · cases q2
    · cases q2
  · cases h
def zkT (w : zW) (za ci : Nat) : Bool := match w.1 za with
  | some (.inr (c, .ref 2 :: _ :: _ :: _ :: .ref ta :: _)) => decide (c = ci) && (match w.1 ta with
    | some (.inl (0, 169, .inl f)) => (List.range 168).all (fun n => decide (f (n + 1) = 0))
    | _ => false)
  | _ => false
theorem zkT_ok {w : zW} {za ci : Nat} (h : zkT w za ci = true) : ∃ (ta : Nat) (f : Nat → Int32) (a1 a2 a3 : Value) (g : List Value), w.1 za = some (.inr (ci, .ref 2 :: a1 :: a2 :: a3 :: .ref ta :: g)) ∧ w.1 ta = some (.inl (0, 169, .inl f)) ∧ ∀ n, n < 168 → f (n + 1) = 0 := by
  unfold zkT at h
  split at h
  · rename_i c a1 a2 a3 ta g hw
    simp only [Bool.and_eq_true, decide_eq_true_eq] at h
    obtain ⟨e, h⟩ := h
    subst e
    split at h
    · rename_i f hf
      refine ⟨ta, f, a1, a2, a3, g, hw, hf, fun n hn => ?_⟩
      exact of_decide_eq_true (List.all_eq_true.mp h n (List.mem_range.mpr hn))
    · cases h
  · cases h
theorem z0c {v : Int32} (h1 : ¬ v < 0) (h2 : ¬ 12 < v) : ∃ n : Nat, n < 13 ∧ v = Int32.ofNat n := by
  rw [Int32.lt_iff_toInt_lt] at h1 h2
  have e0 : (0 : Int32).toInt = 0 := rfl
  have e2 : (12 : Int32).toInt = 12 := rfl
  refine ⟨v.toInt.toNat, by omega, Int32.toInt_inj.mp ?_⟩
  rw [Int32.toInt_ofNat_of_lt (by omega)]
  omega
def zyt0 : zW := zKw (zrunT 1000000 38 47 0 (zin 4 [.ref za0]) [] zy0)
theorem zyt0_m : zmet 38 47 [.ref za0] zy0 none zyt0 := zmetK zm_47 (Nat.le_of_ble_eq_true rfl) (by decide +kernel)
theorem zyt0_T : zkT zyt0 za0 2 = true := by decide +kernel
theorem zyt0_M : zkM zyt0 = true := by decide +kernel
theorem zyt0_r : zRmb zyt0 = true := by decide +kernel
theorem zyt0_k : zkr 0 zyt0 = true := by decide +kernel
theorem zy0_k : zkr 0 zy0 = true := by decide +kernel
theorem zy0_M : zkM zy0 = true := by decide +kernel
theorem zc_coefficient_0_0_0 : zP 78 114 [.int 0, .int 0, .int 0] := zpk_coefficient (by decide) (by decide) (by decide +kernel)
def zyt1 : zW := zKw (zrunT 1000000 38 47 0 (zin 4 [.ref za1]) [] zy1)
theorem zyt1_m : zmet 38 47 [.ref za1] zy1 none zyt1 := zmetK zm_47 (Nat.le_of_ble_eq_true rfl) (by decide +kernel)
theorem zyt1_T : zkT zyt1 za1 2 = true := by decide +kernel
theorem zyt1_M : zkM zyt1 = true := by decide +kernel
theorem zyt1_r : zRmb zyt1 = true := by decide +kernel
theorem zyt1_k : zkr 1 zyt1 = true := by decide +kernel
theorem zy1_k : zkr 1 zy1 = true := by decide +kernel
theorem zy1_M : zkM zy1 = true := by decide +kernel
theorem zc_coefficient_1_0_0 : zP 78 114 [.int 1, .int 0, .int 0] := zpk_coefficient (by decide) (by decide) (by decide +kernel)
def zyt2 : zW := zKw (zrunT 1000000 38 47 0 (zin 4 [.ref za2]) [] zy2)
theorem zyt2_m : zmet 38 47 [.ref za2] zy2 none zyt2 := zmetK zm_47 (Nat.le_of_ble_eq_true rfl) (by decide +kernel)
theorem zyt2_T : zkT zyt2 za2 0 = true := by decide +kernel
theorem zyt2_M : zkM zyt2 = true := by decide +kernel
theorem zyt2_r : zRmb zyt2 = true := by decide +kernel
theorem zyt2_k : zkr 2 zyt2 = true := by decide +kernel
theorem zy2_k : zkr 2 zy2 = true := by decide +kernel
theorem zy2_M : zkM zy2 = true := by decide +kernel
theorem zc_coefficient_2_0_0 : zP 78 114 [.int 2, .int 0, .int 0] := zpk_coefficient (by decide) (by decide) (by decide +kernel)
theorem p_coefficient (v i j : Int32) : zP 78 114 [.int v, .int i, .int j] := by
  obtain ⟨p, ms, hM⟩ := zx4_9
  by_cases h : v < 0 ∨ 2 < v
  · exact zP_same (s_coefficient zx4_1 h) (t_coefficient hM h)
  · rcases z012 h with e | e | e <;> subst e
    · obtain ⟨l, m, M1, -⟩ := zkM_ok zy0_M
      by_cases hr : i < 0 ∨ 12 < i ∨ j < 0 ∨ 12 < j
      · by_cases hn : i < 0 ∨ j < 0
        · exact zP_to (zr_co0 zy0_m hr) (zr_rco0 M1 (c_isSort1_0 M1) hn) zy0_r
        · have h1 : ¬ i < 0 := fun k => hn (Or.inl k)
          have h2 : ¬ j < 0 := fun k => hn (Or.inr k)
          obtain ⟨w5, t, r⟩ := zr_R (i := i) (j := j) M1 (c_isSort1_0 M1) h1 h2 (by
            rintro ⟨e1, e2⟩
            subst e1
            subst e2
            revert hr
            decide) zy0_k
          exact ⟨0, zy0, w5, zr_co0 zy0_m hr, t, zy0_r, r⟩
      · have h1 : ¬ i < 0 := fun k => hr (Or.inl k)
        have h2 : ¬ 12 < i := fun k => hr (Or.inr (Or.inl k))
        have h3 : ¬ j < 0 := fun k => hr (Or.inr (Or.inr (Or.inl k)))
        have h4 : ¬ 12 < j := fun k => hr (Or.inr (Or.inr (Or.inr k)))
        by_cases hz : i = 0 ∧ j = 0
        · obtain ⟨e1, e2⟩ := hz
          subst e1
          subst e2
          exact zc_coefficient_0_0_0
        · obtain ⟨g, z1⟩ := zkZ_ok zr_z0
          obtain ⟨ta, f, a1, a2, a3, g', zt1, A, hf⟩ := zkT_ok zyt0_T
          obtain ⟨l2, m2, M2, -⟩ := zkM_ok zyt0_M
          obtain ⟨w5, t, r⟩ := zr_R (i := i) (j := j) M2 (c_isSort1_0 M2) h1 h3 hz zyt0_k
          obtain ⟨ni, hi, ei⟩ := z0c h1 h2
          obtain ⟨nj, hj, ej⟩ := z0c h3 h4
          refine ⟨0, zyt0, w5, zr_co_2 zy0_m z1 h1 h2 h3 (Int32.not_lt.mp h4) ?_, t, zRm_ok zyt0_r, r⟩
          rw [ei, ej]
          refine zr_coA_2 z1 zyt0_m zt1 A hf hi hj ?_
          have hh : ¬ (ni = 0 ∧ nj = 0) := by
            rintro ⟨e1, e2⟩
            subst e1
            subst e2
            exact hz ⟨ei, ej⟩
          omega
    · obtain ⟨l, m, M1, -⟩ := zkM_ok zy1_M
      by_cases hr : i < 0 ∨ 12 < i ∨ j < 0 ∨ 12 < j
      · by_cases hn : i < 0 ∨ j < 0
        · exact zP_to (zr_co0 zy1_m hr) (zr_rco0 M1 (c_isSort1_1 M1) hn) zy1_r
        · have h1 : ¬ i < 0 := fun k => hn (Or.inl k)
          have h2 : ¬ j < 0 := fun k => hn (Or.inr k)
          obtain ⟨w5, t, r⟩ := zr_R (i := i) (j := j) M1 (c_isSort1_1 M1) h1 h2 (by
            rintro ⟨e1, e2⟩
            subst e1
            subst e2
            revert hr
            decide) zy1_k
          exact ⟨0, zy1, w5, zr_co0 zy1_m hr, t, zy1_r, r⟩
      · have h1 : ¬ i < 0 := fun k => hr (Or.inl k)
        have h2 : ¬ 12 < i := fun k => hr (Or.inr (Or.inl k))
        have h3 : ¬ j < 0 := fun k => hr (Or.inr (Or.inr (Or.inl k)))
        have h4 : ¬ 12 < j := fun k => hr (Or.inr (Or.inr (Or.inr k)))
        by_cases hz : i = 0 ∧ j = 0
        · obtain ⟨e1, e2⟩ := hz
          subst e1
          subst e2
          exact zc_coefficient_1_0_0
        · obtain ⟨g, z1⟩ := zkZ_ok zr_z1
          obtain ⟨ta, f, a1, a2, a3, g', zt1, A, hf⟩ := zkT_ok zyt1_T
          obtain ⟨l2, m2, M2, -⟩ := zkM_ok zyt1_M
          obtain ⟨w5, t, r⟩ := zr_R (i := i) (j := j) M2 (c_isSort1_1 M2) h1 h3 hz zyt1_k
          obtain ⟨ni, hi, ei⟩ := z0c h1 h2
          obtain ⟨nj, hj, ej⟩ := z0c h3 h4
          refine ⟨0, zyt1, w5, zr_co_2 zy1_m z1 h1 h2 h3 (Int32.not_lt.mp h4) ?_, t, zRm_ok zyt1_r, r⟩
          rw [ei, ej]
          refine zr_coA_2 z1 zyt1_m zt1 A hf hi hj ?_
          have hh : ¬ (ni = 0 ∧ nj = 0) := by
            rintro ⟨e1, e2⟩
            subst e1
            subst e2
            exact hz ⟨ei, ej⟩
          omega
    · obtain ⟨l, m, M1, -⟩ := zkM_ok zy2_M
      by_cases hr : i < 0 ∨ 12 < i ∨ j < 0 ∨ 12 < j
      · by_cases hn : i < 0 ∨ j < 0
        · exact zP_to (zr_co0 zy2_m hr) (zr_rco0 M1 (c_isSort1_2 M1) hn) zy2_r
        · have h1 : ¬ i < 0 := fun k => hn (Or.inl k)
          have h2 : ¬ j < 0 := fun k => hn (Or.inr k)
          obtain ⟨w5, t, r⟩ := zr_R (i := i) (j := j) M1 (c_isSort1_2 M1) h1 h2 (by
            rintro ⟨e1, e2⟩
            subst e1
            subst e2
            revert hr
            decide) zy2_k
          exact ⟨0, zy2, w5, zr_co0 zy2_m hr, t, zy2_r, r⟩
      · have h1 : ¬ i < 0 := fun k => hr (Or.inl k)
        have h2 : ¬ 12 < i := fun k => hr (Or.inr (Or.inl k))
        have h3 : ¬ j < 0 := fun k => hr (Or.inr (Or.inr (Or.inl k)))
        have h4 : ¬ 12 < j := fun k => hr (Or.inr (Or.inr (Or.inr k)))
        by_cases hz : i = 0 ∧ j = 0
        · obtain ⟨e1, e2⟩ := hz
          subst e1
          subst e2
          exact zc_coefficient_2_0_0
        · obtain ⟨g, z1⟩ := zkZ_ok zr_z2
          obtain ⟨ta, f, a1, a2, a3, g', zt1, A, hf⟩ := zkT_ok zyt2_T
          obtain ⟨l2, m2, M2, -⟩ := zkM_ok zyt2_M
          obtain ⟨w5, t, r⟩ := zr_R (i := i) (j := j) M2 (c_isSort1_2 M2) h1 h3 hz zyt2_k
          obtain ⟨ni, hi, ei⟩ := z0c h1 h2
          obtain ⟨nj, hj, ej⟩ := z0c h3 h4
          refine ⟨0, zyt2, w5, zr_co_0 zy2_m z1 h1 h2 h3 (Int32.not_lt.mp h4) ?_, t, zRm_ok zyt2_r, r⟩
          rw [ei, ej]
          refine zr_coA_0 z1 zyt2_m zt1 A hf hi hj ?_
          have hh : ¬ (ni = 0 ∧ nj = 0) := by
            rintro ⟨e1, e2⟩
            subst e1
            subst e2
            exact hz ⟨ei, ej⟩
          omega
end
section
/-! joint: any arguments (printed by wip/gen/ref6.py) -/
theorem zm_20 : zMt[20]? = some (yX1_move, cX1_move, 6, (some .boolean), 1, false) := rfl
theorem zd_20 (pc : Nat) : zdec 20 pc = zdl_20.lookup pc := rfl
theorem zm_86 : zMt[86]? = some (yX6_joint, cX6_joint, 5, (some .int), 6, false) := rfl
theorem zd_86 (pc : Nat) : zdec 86 pc = zdl_86.lookup pc := rfl
theorem zm_108 : zMt[108]? = some (yX7_change, cX7_change, 1, none, 7, false) := rfl
theorem zd_108 (pc : Nat) : zdec 108 pc = zdl_108.lookup pc := rfl
theorem zm_141 : zMt[141]? = some (yX7_joint, cX7_joint, 7, (some .int), 7, false) := rfl
theorem zd_141 (pc : Nat) : zdec 141 pc = zdl_141.lookup pc := rfl
theorem zq_6_38 : zcl 6 38 = some (2, 0, 85, 1) := by decide +kernel
theorem zq_6_41 : zcl 6 41 = some (3, 1, 20, 4) := by decide +kernel
theorem zq_7_67 : zcl 7 67 = some (3, 5, 108, 0) := by decide +kernel
theorem zq_7_81 : zcl 7 81 = some (2, 0, 139, 1) := by decide +kernel
theorem zqv_6_41_1 : zclv 6 41 1 = some (3, 1, 20, 4) := by decide +kernel
theorem zqv_7_67_5 : zclv 7 67 5 = some (3, 5, 108, 0) := by decide +kernel
theorem zdQ_20_0 : zdec 20 0 = some (.iload_n 1, 1) := by decide +kernel
theorem zdQ_20_1 : zdec 20 1 = some (.iconst 3, 1) := by decide +kernel
theorem zdQ_20_2 : zdec 20 2 = some (.imul, 1) := by decide +kernel
theorem zdQ_20_3 : zdec 20 3 = some (.istore 5, 2) := by decide +kernel
theorem zdQ_20_5 : zdec 20 5 = some (.aload_n 0, 1) := by decide +kernel
theorem zdQ_20_6 : zdec 20 6 = some (.getfield 9, 3) := by decide +kernel
theorem zdQ_20_9 : zdec 20 9 = some (.iload 5, 2) := by decide +kernel
theorem zdQ_20_11 : zdec 20 11 = some (.iaload, 1) := by decide +kernel
theorem zdQ_20_12 : zdec 20 12 = some (.iload_n 2, 1) := by decide +kernel
theorem zdQ_20_13 : zdec 20 13 = some (.if_icmp .ne 32, 3) := by decide +kernel
theorem zdQ_20_16 : zdec 20 16 = some (.aload_n 0, 1) := by decide +kernel
theorem zdQ_20_17 : zdec 20 17 = some (.getfield 9, 3) := by decide +kernel
theorem zdQ_20_20 : zdec 20 20 = some (.iload 5, 2) := by decide +kernel
theorem zdQ_20_22 : zdec 20 22 = some (.iconst 1, 1) := by decide +kernel
theorem zdQ_20_23 : zdec 20 23 = some (.iadd, 1) := by decide +kernel
theorem zdQ_20_24 : zdec 20 24 = some (.iaload, 1) := by decide +kernel
theorem zdQ_20_25 : zdec 20 25 = some (.iload_n 3, 1) := by decide +kernel
theorem zdQ_20_26 : zdec 20 26 = some (.if_icmp .ne 19, 3) := by decide +kernel
theorem zdQ_20_29 : zdec 20 29 = some (.aload_n 0, 1) := by decide +kernel
theorem zdQ_20_30 : zdec 20 30 = some (.getfield 9, 3) := by decide +kernel
theorem zdQ_20_33 : zdec 20 33 = some (.iload 5, 2) := by decide +kernel
theorem zdQ_20_35 : zdec 20 35 = some (.iconst 2, 1) := by decide +kernel
theorem zdQ_20_36 : zdec 20 36 = some (.iadd, 1) := by decide +kernel
theorem zdQ_20_37 : zdec 20 37 = some (.iaload, 1) := by decide +kernel
theorem zdQ_20_38 : zdec 20 38 = some (.iload 4, 2) := by decide +kernel
theorem zdQ_20_40 : zdec 20 40 = some (.if_icmp .ne 5, 3) := by decide +kernel
theorem zdQ_20_43 : zdec 20 43 = some (.iconst 0, 1) := by decide +kernel
theorem zdQ_20_44 : zdec 20 44 = some (.ireturn, 1) := by decide +kernel
theorem zdQ_20_45 : zdec 20 45 = some (.aload_n 0, 1) := by decide +kernel
theorem zdQ_20_46 : zdec 20 46 = some (.getfield 9, 3) := by decide +kernel
theorem zdQ_20_49 : zdec 20 49 = some (.iload 5, 2) := by decide +kernel
theorem zdQ_20_51 : zdec 20 51 = some (.iload_n 2, 1) := by decide +kernel
theorem zdQ_20_52 : zdec 20 52 = some (.iastore, 1) := by decide +kernel
theorem zdQ_20_53 : zdec 20 53 = some (.aload_n 0, 1) := by decide +kernel
theorem zdQ_20_54 : zdec 20 54 = some (.getfield 9, 3) := by decide +kernel
theorem zdQ_20_57 : zdec 20 57 = some (.iload 5, 2) := by decide +kernel
theorem zdQ_20_59 : zdec 20 59 = some (.iconst 1, 1) := by decide +kernel
theorem zdQ_20_60 : zdec 20 60 = some (.iadd, 1) := by decide +kernel
theorem zdQ_20_61 : zdec 20 61 = some (.iload_n 3, 1) := by decide +kernel
theorem zdQ_20_62 : zdec 20 62 = some (.iastore, 1) := by decide +kernel
theorem zdQ_20_63 : zdec 20 63 = some (.aload_n 0, 1) := by decide +kernel
theorem zdQ_20_64 : zdec 20 64 = some (.getfield 9, 3) := by decide +kernel
theorem zdQ_20_67 : zdec 20 67 = some (.iload 5, 2) := by decide +kernel
theorem zdQ_20_69 : zdec 20 69 = some (.iconst 2, 1) := by decide +kernel
theorem zdQ_20_70 : zdec 20 70 = some (.iadd, 1) := by decide +kernel
theorem zdQ_20_71 : zdec 20 71 = some (.iload 4, 2) := by decide +kernel
theorem zdQ_20_73 : zdec 20 73 = some (.iastore, 1) := by decide +kernel
theorem zdQ_20_74 : zdec 20 74 = some (.aload_n 0, 1) := by decide +kernel
theorem zdQ_20_75 : zdec 20 75 = some (.dup, 1) := by decide +kernel
theorem zdQ_20_76 : zdec 20 76 = some (.getfield 31, 3) := by decide +kernel
theorem zdQ_20_79 : zdec 20 79 = some (.iconst 1, 1) := by decide +kernel
theorem zdQ_20_80 : zdec 20 80 = some (.iadd, 1) := by decide +kernel
theorem zdQ_20_81 : zdec 20 81 = some (.putfield 31, 3) := by decide +kernel
theorem zdQ_20_84 : zdec 20 84 = some (.iconst 1, 1) := by decide +kernel
theorem zdQ_20_85 : zdec 20 85 = some (.ireturn, 1) := by decide +kernel
theorem zdQ_86_0 : zdec 86 0 = some (.aload_n 0, 1) := by decide +kernel
theorem zdQ_86_1 : zdec 86 1 = some (.getfield 12, 3) := by decide +kernel
theorem zdQ_86_4 : zdec 86 4 = some (.iload_n 1, 1) := by decide +kernel
theorem zdQ_86_5 : zdec 86 5 = some (.invokevirtual 34, 3) := by decide +kernel
theorem zdQ_86_8 : zdec 86 8 = some (.ifCond .eq 25, 3) := by decide +kernel
theorem zdQ_86_11 : zdec 86 11 = some (.iload_n 2, 1) := by decide +kernel
theorem zdQ_86_12 : zdec 86 12 = some (.invokestatic 38, 3) := by decide +kernel
theorem zdQ_86_15 : zdec 86 15 = some (.ifCond .ne 18, 3) := by decide +kernel
theorem zdQ_86_18 : zdec 86 18 = some (.iload_n 3, 1) := by decide +kernel
theorem zdQ_86_19 : zdec 86 19 = some (.invokestatic 38, 3) := by decide +kernel
theorem zdQ_86_22 : zdec 86 22 = some (.ifCond .ne 11, 3) := by decide +kernel
theorem zdQ_86_25 : zdec 86 25 = some (.iload 4, 2) := by decide +kernel
theorem zdQ_86_27 : zdec 86 27 = some (.invokestatic 38, 3) := by decide +kernel
theorem zdQ_86_30 : zdec 86 30 = some (.ifCond .eq 6, 3) := by decide +kernel
theorem zdQ_86_33 : zdec 86 33 = some (.bipush (-2), 2) := by decide +kernel
theorem zdQ_86_35 : zdec 86 35 = some (.ireturn, 1) := by decide +kernel
theorem zdQ_86_36 : zdec 86 36 = some (.aload_n 0, 1) := by decide +kernel
theorem zdQ_86_37 : zdec 86 37 = some (.getfield 12, 3) := by decide +kernel
theorem zdQ_86_40 : zdec 86 40 = some (.iload_n 1, 1) := by decide +kernel
theorem zdQ_86_41 : zdec 86 41 = some (.iload_n 2, 1) := by decide +kernel
theorem zdQ_86_42 : zdec 86 42 = some (.iload_n 3, 1) := by decide +kernel
theorem zdQ_86_43 : zdec 86 43 = some (.iload 4, 2) := by decide +kernel
theorem zdQ_86_45 : zdec 86 45 = some (.invokevirtual 41, 3) := by decide +kernel
theorem zdQ_86_48 : zdec 86 48 = some (.ifCond .eq 7, 3) := by decide +kernel
theorem zdQ_86_51 : zdec 86 51 = some (.iconst 1, 1) := by decide +kernel
theorem zdQ_86_52 : zdec 86 52 = some (.goto 4, 3) := by decide +kernel
theorem zdQ_86_55 : zdec 86 55 = some (.iconst 0, 1) := by decide +kernel
theorem zdQ_86_56 : zdec 86 56 = some (.ireturn, 1) := by decide +kernel
theorem zdQ_108_0 : zdec 108 0 = some (.aload_n 0, 1) := by decide +kernel
theorem zdQ_108_1 : zdec 108 1 = some (.getfield 29, 3) := by decide +kernel
theorem zdQ_108_4 : zdec 108 4 = some (.iconst 0, 1) := by decide +kernel
theorem zdQ_108_5 : zdec 108 5 = some (.iconst 0, 1) := by decide +kernel
theorem zdQ_108_6 : zdec 108 6 = some (.bastore, 1) := by decide +kernel
theorem zdQ_108_7 : zdec 108 7 = some (.aload_n 0, 1) := by decide +kernel
theorem zdQ_108_8 : zdec 108 8 = some (.getfield 29, 3) := by decide +kernel
theorem zdQ_108_11 : zdec 108 11 = some (.iconst 1, 1) := by decide +kernel
theorem zdQ_108_12 : zdec 108 12 = some (.iconst 0, 1) := by decide +kernel
theorem zdQ_108_13 : zdec 108 13 = some (.bastore, 1) := by decide +kernel
theorem zdQ_108_14 : zdec 108 14 = some (.aload_n 0, 1) := by decide +kernel
theorem zdQ_108_15 : zdec 108 15 = some (.getfield 29, 3) := by decide +kernel
theorem zdQ_108_18 : zdec 108 18 = some (.iconst 2, 1) := by decide +kernel
theorem zdQ_108_19 : zdec 108 19 = some (.iconst 0, 1) := by decide +kernel
theorem zdQ_108_20 : zdec 108 20 = some (.bastore, 1) := by decide +kernel
theorem zdQ_108_21 : zdec 108 21 = some (.return_, 1) := by decide +kernel
theorem zdQ_141_0 : zdec 141 0 = some (.aload_n 0, 1) := by decide +kernel
theorem zdQ_141_1 : zdec 141 1 = some (.iload_n 1, 1) := by decide +kernel
theorem zdQ_141_2 : zdec 141 2 = some (.invokevirtual 77, 3) := by decide +kernel
theorem zdQ_141_5 : zdec 141 5 = some (.ifCond .eq 25, 3) := by decide +kernel
theorem zdQ_141_8 : zdec 141 8 = some (.iload_n 2, 1) := by decide +kernel
theorem zdQ_141_9 : zdec 141 9 = some (.invokestatic 81, 3) := by decide +kernel
theorem zdQ_141_12 : zdec 141 12 = some (.ifCond .eq 18, 3) := by decide +kernel
theorem zdQ_141_15 : zdec 141 15 = some (.iload_n 3, 1) := by decide +kernel
theorem zdQ_141_16 : zdec 141 16 = some (.invokestatic 81, 3) := by decide +kernel
theorem zdQ_141_19 : zdec 141 19 = some (.ifCond .eq 11, 3) := by decide +kernel
theorem zdQ_141_22 : zdec 141 22 = some (.iload 4, 2) := by decide +kernel
theorem zdQ_141_24 : zdec 141 24 = some (.invokestatic 81, 3) := by decide +kernel
theorem zdQ_141_27 : zdec 141 27 = some (.ifCond .ne 6, 3) := by decide +kernel
theorem zdQ_141_30 : zdec 141 30 = some (.bipush (-2), 2) := by decide +kernel
theorem zdQ_141_32 : zdec 141 32 = some (.ireturn, 1) := by decide +kernel
theorem zdQ_141_33 : zdec 141 33 = some (.iconst 3, 1) := by decide +kernel
theorem zdQ_141_34 : zdec 141 34 = some (.iload_n 1, 1) := by decide +kernel
theorem zdQ_141_35 : zdec 141 35 = some (.imul, 1) := by decide +kernel
theorem zdQ_141_36 : zdec 141 36 = some (.istore 5, 2) := by decide +kernel
theorem zdQ_141_38 : zdec 141 38 = some (.aload_n 0, 1) := by decide +kernel
theorem zdQ_141_39 : zdec 141 39 = some (.getfield 13, 3) := by decide +kernel
theorem zdQ_141_42 : zdec 141 42 = some (.iload 5, 2) := by decide +kernel
theorem zdQ_141_44 : zdec 141 44 = some (.iaload, 1) := by decide +kernel
theorem zdQ_141_45 : zdec 141 45 = some (.iload_n 2, 1) := by decide +kernel
theorem zdQ_141_46 : zdec 141 46 = some (.if_icmp .ne 30, 3) := by decide +kernel
theorem zdQ_141_49 : zdec 141 49 = some (.aload_n 0, 1) := by decide +kernel
theorem zdQ_141_50 : zdec 141 50 = some (.getfield 13, 3) := by decide +kernel
theorem zdQ_141_53 : zdec 141 53 = some (.iload 5, 2) := by decide +kernel
theorem zdQ_141_55 : zdec 141 55 = some (.iconst 1, 1) := by decide +kernel
theorem zdQ_141_56 : zdec 141 56 = some (.iadd, 1) := by decide +kernel
theorem zdQ_141_57 : zdec 141 57 = some (.iaload, 1) := by decide +kernel
theorem zdQ_141_58 : zdec 141 58 = some (.iload_n 3, 1) := by decide +kernel
theorem zdQ_141_59 : zdec 141 59 = some (.if_icmp .ne 17, 3) := by decide +kernel
theorem zdQ_141_62 : zdec 141 62 = some (.aload_n 0, 1) := by decide +kernel
theorem zdQ_141_63 : zdec 141 63 = some (.getfield 13, 3) := by decide +kernel
theorem zdQ_141_66 : zdec 141 66 = some (.iload 5, 2) := by decide +kernel
theorem zdQ_141_68 : zdec 141 68 = some (.iconst 2, 1) := by decide +kernel
theorem zdQ_141_69 : zdec 141 69 = some (.iadd, 1) := by decide +kernel
theorem zdQ_141_70 : zdec 141 70 = some (.iaload, 1) := by decide +kernel
theorem zdQ_141_71 : zdec 141 71 = some (.iload 4, 2) := by decide +kernel
theorem zdQ_141_73 : zdec 141 73 = some (.if_icmp .eq 7, 3) := by decide +kernel
theorem zdQ_141_76 : zdec 141 76 = some (.iconst 1, 1) := by decide +kernel
theorem zdQ_141_77 : zdec 141 77 = some (.goto 4, 3) := by decide +kernel
theorem zdQ_141_80 : zdec 141 80 = some (.iconst 0, 1) := by decide +kernel
theorem zdQ_141_81 : zdec 141 81 = some (.istore 6, 2) := by decide +kernel
theorem zdQ_141_83 : zdec 141 83 = some (.aload_n 0, 1) := by decide +kernel
theorem zdQ_141_84 : zdec 141 84 = some (.getfield 13, 3) := by decide +kernel
theorem zdQ_141_87 : zdec 141 87 = some (.iload 5, 2) := by decide +kernel
theorem zdQ_141_89 : zdec 141 89 = some (.iload_n 2, 1) := by decide +kernel
theorem zdQ_141_90 : zdec 141 90 = some (.iastore, 1) := by decide +kernel
theorem zdQ_141_91 : zdec 141 91 = some (.aload_n 0, 1) := by decide +kernel
theorem zdQ_141_92 : zdec 141 92 = some (.getfield 13, 3) := by decide +kernel
theorem zdQ_141_95 : zdec 141 95 = some (.iload 5, 2) := by decide +kernel
theorem zdQ_141_97 : zdec 141 97 = some (.iconst 1, 1) := by decide +kernel
theorem zdQ_141_98 : zdec 141 98 = some (.iadd, 1) := by decide +kernel
theorem zdQ_141_99 : zdec 141 99 = some (.iload_n 3, 1) := by decide +kernel
theorem zdQ_141_100 : zdec 141 100 = some (.iastore, 1) := by decide +kernel
theorem zdQ_141_101 : zdec 141 101 = some (.aload_n 0, 1) := by decide +kernel
theorem zdQ_141_102 : zdec 141 102 = some (.getfield 13, 3) := by decide +kernel
theorem zdQ_141_105 : zdec 141 105 = some (.iload 5, 2) := by decide +kernel
theorem zdQ_141_107 : zdec 141 107 = some (.iconst 2, 1) := by decide +kernel
theorem zdQ_141_108 : zdec 141 108 = some (.iadd, 1) := by decide +kernel
theorem zdQ_141_109 : zdec 141 109 = some (.iload 4, 2) := by decide +kernel
theorem zdQ_141_111 : zdec 141 111 = some (.iastore, 1) := by decide +kernel
theorem zdQ_141_112 : zdec 141 112 = some (.aload_n 0, 1) := by decide +kernel
theorem zdQ_141_113 : zdec 141 113 = some (.invokevirtual 67, 3) := by decide +kernel
theorem zdQ_141_116 : zdec 141 116 = some (.iload 6, 2) := by decide +kernel
theorem zdQ_141_118 : zdec 141 118 = some (.ifCond .eq 7, 3) := by decide +kernel
theorem zdQ_141_121 : zdec 141 121 = some (.iconst 1, 1) := by decide +kernel
theorem zdQ_141_122 : zdec 141 122 = some (.goto 4, 3) := by decide +kernel
theorem zdQ_141_125 : zdec 141 125 = some (.iconst 0, 1) := by decide +kernel
theorem zdQ_141_126 : zdec 141 126 = some (.ireturn, 1) := by decide +kernel
theorem zr_far {d : Nat} {w : zW} {v : Int32} (h : v < -4 ∨ 4 < v) : zmet d 85 [.int v] w (some (.int 1)) w := by
  by_cases h1 : v < -4
  · exact c_far1a h1
  · exact c_far1b h1 (Int32.not_le.mpr (h.resolve_left h1))
theorem zr_nfar {d : Nat} {w : zW} {v : Int32} (h : ¬ (v < -4 ∨ 4 < v)) : zmet d 85 [.int v] w (some (.int 0)) w := c_far0 (fun k => h (Or.inl k)) (Int32.not_lt.mp (fun k => h (Or.inr k)))
theorem zr_way {d : Nat} {w : zW} {v : Int32} (h : ¬ (v < -4 ∨ 4 < v)) : zmet (d + 1) 139 [.int v] w (some (.int 1)) w := c_isWay1 (fun k => h (Or.inl k)) (fun k => h (Or.inr k))
theorem zr_j0 {d : Nat} {w : zW} {v x y z : Int32} {q1 q2 : Value} (hX : w.1 1 = some (.inr (4, [.ref 2, q1, q2]))) {p0 p1 p2 p3 : Value} {ve : Int32} (hF : w.1 2 = some (.inr (1, [p0, p1, p2, p3, .int 1, .int 0, .int ve]))) (h : v < 0 ∨ (1 : Int32) ≤ v) : zmet (d + 1) 86 [.ref 1, .int v, .int x, .int y, .int z] w (some (.int (-2))) w := by
  refine ⟨_, rfl, Nat.le_of_ble_eq_true rfl, ?_⟩
  show zev (d + 1) 86 0 [some (.ref 1), some (.int v), some (.int x), some (.int y), some (.int z)] [] w _ _
  refine zt (pc' := 1) zdQ_86_0 zm_86 rfl rfl ?_
  refine zt_get (pc' := 4) zdQ_86_1 zm_86 rfl rfl hX (by decide) rfl ?_
  refine zt (pc' := 5) zdQ_86_4 zm_86 rfl rfl ?_
  refine zt_V (pc' := 8) zdQ_86_5 zm_86 rfl zq_6_34 rfl (Nat.le_of_ble_eq_true rfl) hF zqv_6_34_1 (by decide) rfl (c_hasJoint0 hF h) ?_
  refine zt_ifT (tgt := 33) (pc' := 11) zdQ_86_8 zm_86 rfl rfl (zeq rfl) ?_
  refine zt (pc' := 35) zdQ_86_33 zm_86 rfl rfl ?_
  exact zte zdQ_86_35 zm_86 rfl
theorem zr_j1 {d : Nat} {w : zW} {v x y z : Int32} {q1 q2 : Value} (hX : w.1 1 = some (.inr (4, [.ref 2, q1, q2]))) {p0 p1 p2 p3 : Value} {ve : Int32} (hF : w.1 2 = some (.inr (1, [p0, p1, p2, p3, .int 1, .int 0, .int ve]))) (h1 : ¬ v < 0) (h2 : ¬ (1 : Int32) ≤ v) (h : x < -4 ∨ 4 < x) : zmet (d + 1) 86 [.ref 1, .int v, .int x, .int y, .int z] w (some (.int (-2))) w := by
  refine ⟨_, rfl, Nat.le_of_ble_eq_true rfl, ?_⟩
  show zev (d + 1) 86 0 [some (.ref 1), some (.int v), some (.int x), some (.int y), some (.int z)] [] w _ _
  refine zt (pc' := 1) zdQ_86_0 zm_86 rfl rfl ?_
  refine zt_get (pc' := 4) zdQ_86_1 zm_86 rfl rfl hX (by decide) rfl ?_
  refine zt (pc' := 5) zdQ_86_4 zm_86 rfl rfl ?_
  refine zt_V (pc' := 8) zdQ_86_5 zm_86 rfl zq_6_34 rfl (Nat.le_of_ble_eq_true rfl) hF zqv_6_34_1 (by decide) rfl (c_hasJoint1 hF h1 h2) ?_
  refine zt_ifF (tgt := 33) (pc' := 11) zdQ_86_8 zm_86 rfl rfl (zneq (by decide)) ?_
  refine zt (pc' := 12) zdQ_86_11 zm_86 rfl rfl ?_
  refine zt_S (pc' := 15) zdQ_86_12 zm_86 rfl zq_6_38 (Nat.le_of_ble_eq_true rfl) (Nat.le_of_ble_eq_true rfl) rfl (zr_far h) ?_
  refine zt_ifT (tgt := 33) (pc' := 18) zdQ_86_15 zm_86 rfl rfl (zne (by decide)) ?_
  refine zt (pc' := 35) zdQ_86_33 zm_86 rfl rfl ?_
  exact zte zdQ_86_35 zm_86 rfl
theorem zr_j2 {d : Nat} {w : zW} {v x y z : Int32} {q1 q2 : Value} (hX : w.1 1 = some (.inr (4, [.ref 2, q1, q2]))) {p0 p1 p2 p3 : Value} {ve : Int32} (hF : w.1 2 = some (.inr (1, [p0, p1, p2, p3, .int 1, .int 0, .int ve]))) (h1 : ¬ v < 0) (h2 : ¬ (1 : Int32) ≤ v) (nx : ¬ (x < -4 ∨ 4 < x)) (h : y < -4 ∨ 4 < y) : zmet (d + 1) 86 [.ref 1, .int v, .int x, .int y, .int z] w (some (.int (-2))) w := by
  refine ⟨_, rfl, Nat.le_of_ble_eq_true rfl, ?_⟩
  show zev (d + 1) 86 0 [some (.ref 1), some (.int v), some (.int x), some (.int y), some (.int z)] [] w _ _
  refine zt (pc' := 1) zdQ_86_0 zm_86 rfl rfl ?_
  refine zt_get (pc' := 4) zdQ_86_1 zm_86 rfl rfl hX (by decide) rfl ?_
  refine zt (pc' := 5) zdQ_86_4 zm_86 rfl rfl ?_
  refine zt_V (pc' := 8) zdQ_86_5 zm_86 rfl zq_6_34 rfl (Nat.le_of_ble_eq_true rfl) hF zqv_6_34_1 (by decide) rfl (c_hasJoint1 hF h1 h2) ?_
  refine zt_ifF (tgt := 33) (pc' := 11) zdQ_86_8 zm_86 rfl rfl (zneq (by decide)) ?_
  refine zt (pc' := 12) zdQ_86_11 zm_86 rfl rfl ?_
  refine zt_S (pc' := 15) zdQ_86_12 zm_86 rfl zq_6_38 (Nat.le_of_ble_eq_true rfl) (Nat.le_of_ble_eq_true rfl) rfl (zr_nfar nx) ?_
  refine zt_ifF (tgt := 33) (pc' := 18) zdQ_86_15 zm_86 rfl rfl (znne rfl) ?_
  refine zt (pc' := 19) zdQ_86_18 zm_86 rfl rfl ?_
  refine zt_S (pc' := 22) zdQ_86_19 zm_86 rfl zq_6_38 (Nat.le_of_ble_eq_true rfl) (Nat.le_of_ble_eq_true rfl) rfl (zr_far h) ?_
  refine zt_ifT (tgt := 33) (pc' := 25) zdQ_86_22 zm_86 rfl rfl (zne (by decide)) ?_
  refine zt (pc' := 35) zdQ_86_33 zm_86 rfl rfl ?_
  exact zte zdQ_86_35 zm_86 rfl
theorem zr_j3 {d : Nat} {w : zW} {v x y z : Int32} {q1 q2 : Value} (hX : w.1 1 = some (.inr (4, [.ref 2, q1, q2]))) {p0 p1 p2 p3 : Value} {ve : Int32} (hF : w.1 2 = some (.inr (1, [p0, p1, p2, p3, .int 1, .int 0, .int ve]))) (h1 : ¬ v < 0) (h2 : ¬ (1 : Int32) ≤ v) (nx : ¬ (x < -4 ∨ 4 < x)) (ny : ¬ (y < -4 ∨ 4 < y)) (h : z < -4 ∨ 4 < z) : zmet (d + 1) 86 [.ref 1, .int v, .int x, .int y, .int z] w (some (.int (-2))) w := by
  refine ⟨_, rfl, Nat.le_of_ble_eq_true rfl, ?_⟩
  show zev (d + 1) 86 0 [some (.ref 1), some (.int v), some (.int x), some (.int y), some (.int z)] [] w _ _
  refine zt (pc' := 1) zdQ_86_0 zm_86 rfl rfl ?_
  refine zt_get (pc' := 4) zdQ_86_1 zm_86 rfl rfl hX (by decide) rfl ?_
  refine zt (pc' := 5) zdQ_86_4 zm_86 rfl rfl ?_
  refine zt_V (pc' := 8) zdQ_86_5 zm_86 rfl zq_6_34 rfl (Nat.le_of_ble_eq_true rfl) hF zqv_6_34_1 (by decide) rfl (c_hasJoint1 hF h1 h2) ?_
  refine zt_ifF (tgt := 33) (pc' := 11) zdQ_86_8 zm_86 rfl rfl (zneq (by decide)) ?_
  refine zt (pc' := 12) zdQ_86_11 zm_86 rfl rfl ?_
  refine zt_S (pc' := 15) zdQ_86_12 zm_86 rfl zq_6_38 (Nat.le_of_ble_eq_true rfl) (Nat.le_of_ble_eq_true rfl) rfl (zr_nfar nx) ?_
  refine zt_ifF (tgt := 33) (pc' := 18) zdQ_86_15 zm_86 rfl rfl (znne rfl) ?_
  refine zt (pc' := 19) zdQ_86_18 zm_86 rfl rfl ?_
  refine zt_S (pc' := 22) zdQ_86_19 zm_86 rfl zq_6_38 (Nat.le_of_ble_eq_true rfl) (Nat.le_of_ble_eq_true rfl) rfl (zr_nfar ny) ?_
  refine zt_ifF (tgt := 33) (pc' := 25) zdQ_86_22 zm_86 rfl rfl (znne rfl) ?_
  refine zt (pc' := 27) zdQ_86_25 zm_86 rfl rfl ?_
  refine zt_S (pc' := 30) zdQ_86_27 zm_86 rfl zq_6_38 (Nat.le_of_ble_eq_true rfl) (Nat.le_of_ble_eq_true rfl) rfl (zr_far h) ?_
  refine zt_ifF (tgt := 36) (pc' := 33) zdQ_86_30 zm_86 rfl rfl (zneq (by decide)) ?_
  refine zt (pc' := 35) zdQ_86_33 zm_86 rfl rfl ?_
  exact zte zdQ_86_35 zm_86 rfl
set_option maxHeartbeats 8000000 in
theorem zr_j4_0 {d : Nat} {w w2 : zW} {v x y z : Int32} {q1 q2 : Value} (hX : w.1 1 = some (.inr (4, [.ref 2, q1, q2]))) {p0 p1 p2 p3 : Value} {ve : Int32} (hF : w.1 2 = some (.inr (1, [p0, p1, p2, p3, .int 1, .int 0, .int ve]))) (h1 : ¬ v < 0) (h2 : ¬ (1 : Int32) ≤ v) (nx : ¬ (x < -4 ∨ 4 < x)) (ny : ¬ (y < -4 ∨ 4 < y)) (nz : ¬ (z < -4 ∨ 4 < z)) (hm : zmet d 20 [.ref 2, .int v, .int x, .int y, .int z] w (some (.int 0)) w2) : zmet (d + 1) 86 [.ref 1, .int v, .int x, .int y, .int z] w (some (.int 0)) w2 := by
  refine ⟨_, rfl, Nat.le_of_ble_eq_true rfl, ?_⟩
  show zev (d + 1) 86 0 [some (.ref 1), some (.int v), some (.int x), some (.int y), some (.int z)] [] w _ _
  refine zt (pc' := 1) zdQ_86_0 zm_86 rfl rfl ?_
  refine zt_get (pc' := 4) zdQ_86_1 zm_86 rfl rfl hX (by decide) rfl ?_
  refine zt (pc' := 5) zdQ_86_4 zm_86 rfl rfl ?_
  refine zt_V (pc' := 8) zdQ_86_5 zm_86 rfl zq_6_34 rfl (Nat.le_of_ble_eq_true rfl) hF zqv_6_34_1 (by decide) rfl (c_hasJoint1 hF h1 h2) ?_
  refine zt_ifF (tgt := 33) (pc' := 11) zdQ_86_8 zm_86 rfl rfl (zneq (by decide)) ?_
  refine zt (pc' := 12) zdQ_86_11 zm_86 rfl rfl ?_
  refine zt_S (pc' := 15) zdQ_86_12 zm_86 rfl zq_6_38 (Nat.le_of_ble_eq_true rfl) (Nat.le_of_ble_eq_true rfl) rfl (zr_nfar nx) ?_
  refine zt_ifF (tgt := 33) (pc' := 18) zdQ_86_15 zm_86 rfl rfl (znne rfl) ?_
  refine zt (pc' := 19) zdQ_86_18 zm_86 rfl rfl ?_
  refine zt_S (pc' := 22) zdQ_86_19 zm_86 rfl zq_6_38 (Nat.le_of_ble_eq_true rfl) (Nat.le_of_ble_eq_true rfl) rfl (zr_nfar ny) ?_
  refine zt_ifF (tgt := 33) (pc' := 25) zdQ_86_22 zm_86 rfl rfl (znne rfl) ?_
  refine zt (pc' := 27) zdQ_86_25 zm_86 rfl rfl ?_
  refine zt_S (pc' := 30) zdQ_86_27 zm_86 rfl zq_6_38 (Nat.le_of_ble_eq_true rfl) (Nat.le_of_ble_eq_true rfl) rfl (zr_nfar nz) ?_
  refine zt_ifT (tgt := 36) (pc' := 33) zdQ_86_30 zm_86 rfl rfl (zeq rfl) ?_
  refine zt (pc' := 37) zdQ_86_36 zm_86 rfl rfl ?_
  refine zt_get (pc' := 40) zdQ_86_37 zm_86 rfl rfl hX (by decide) rfl ?_
  refine zt (pc' := 41) zdQ_86_40 zm_86 rfl rfl ?_
  refine zt (pc' := 42) zdQ_86_41 zm_86 rfl rfl ?_
  refine zt (pc' := 43) zdQ_86_42 zm_86 rfl rfl ?_
  refine zt (pc' := 45) zdQ_86_43 zm_86 rfl rfl ?_
  refine zt_V (pc' := 48) zdQ_86_45 zm_86 rfl zq_6_41 rfl (Nat.le_of_ble_eq_true rfl) hF zqv_6_41_1 (by decide) rfl (hm) ?_
  refine zt_ifT (tgt := 55) (pc' := 51) zdQ_86_48 zm_86 rfl rfl (zeq rfl) ?_
  refine zt (pc' := 56) zdQ_86_55 zm_86 rfl rfl ?_
  exact zte zdQ_86_56 zm_86 rfl
set_option maxHeartbeats 8000000 in
theorem zr_j4_1 {d : Nat} {w w2 : zW} {v x y z : Int32} {q1 q2 : Value} (hX : w.1 1 = some (.inr (4, [.ref 2, q1, q2]))) {p0 p1 p2 p3 : Value} {ve : Int32} (hF : w.1 2 = some (.inr (1, [p0, p1, p2, p3, .int 1, .int 0, .int ve]))) (h1 : ¬ v < 0) (h2 : ¬ (1 : Int32) ≤ v) (nx : ¬ (x < -4 ∨ 4 < x)) (ny : ¬ (y < -4 ∨ 4 < y)) (nz : ¬ (z < -4 ∨ 4 < z)) (hm : zmet d 20 [.ref 2, .int v, .int x, .int y, .int z] w (some (.int 1)) w2) : zmet (d + 1) 86 [.ref 1, .int v, .int x, .int y, .int z] w (some (.int 1)) w2 := by
  refine ⟨_, rfl, Nat.le_of_ble_eq_true rfl, ?_⟩
  show zev (d + 1) 86 0 [some (.ref 1), some (.int v), some (.int x), some (.int y), some (.int z)] [] w _ _
  refine zt (pc' := 1) zdQ_86_0 zm_86 rfl rfl ?_
  refine zt_get (pc' := 4) zdQ_86_1 zm_86 rfl rfl hX (by decide) rfl ?_
  refine zt (pc' := 5) zdQ_86_4 zm_86 rfl rfl ?_
  refine zt_V (pc' := 8) zdQ_86_5 zm_86 rfl zq_6_34 rfl (Nat.le_of_ble_eq_true rfl) hF zqv_6_34_1 (by decide) rfl (c_hasJoint1 hF h1 h2) ?_
  refine zt_ifF (tgt := 33) (pc' := 11) zdQ_86_8 zm_86 rfl rfl (zneq (by decide)) ?_
  refine zt (pc' := 12) zdQ_86_11 zm_86 rfl rfl ?_
  refine zt_S (pc' := 15) zdQ_86_12 zm_86 rfl zq_6_38 (Nat.le_of_ble_eq_true rfl) (Nat.le_of_ble_eq_true rfl) rfl (zr_nfar nx) ?_
  refine zt_ifF (tgt := 33) (pc' := 18) zdQ_86_15 zm_86 rfl rfl (znne rfl) ?_
  refine zt (pc' := 19) zdQ_86_18 zm_86 rfl rfl ?_
  refine zt_S (pc' := 22) zdQ_86_19 zm_86 rfl zq_6_38 (Nat.le_of_ble_eq_true rfl) (Nat.le_of_ble_eq_true rfl) rfl (zr_nfar ny) ?_
  refine zt_ifF (tgt := 33) (pc' := 25) zdQ_86_22 zm_86 rfl rfl (znne rfl) ?_
  refine zt (pc' := 27) zdQ_86_25 zm_86 rfl rfl ?_
  refine zt_S (pc' := 30) zdQ_86_27 zm_86 rfl zq_6_38 (Nat.le_of_ble_eq_true rfl) (Nat.le_of_ble_eq_true rfl) rfl (zr_nfar nz) ?_
  refine zt_ifT (tgt := 36) (pc' := 33) zdQ_86_30 zm_86 rfl rfl (zeq rfl) ?_
  refine zt (pc' := 37) zdQ_86_36 zm_86 rfl rfl ?_
  refine zt_get (pc' := 40) zdQ_86_37 zm_86 rfl rfl hX (by decide) rfl ?_
  refine zt (pc' := 41) zdQ_86_40 zm_86 rfl rfl ?_
  refine zt (pc' := 42) zdQ_86_41 zm_86 rfl rfl ?_
  refine zt (pc' := 43) zdQ_86_42 zm_86 rfl rfl ?_
  refine zt (pc' := 45) zdQ_86_43 zm_86 rfl rfl ?_
  refine zt_V (pc' := 48) zdQ_86_45 zm_86 rfl zq_6_41 rfl (Nat.le_of_ble_eq_true rfl) hF zqv_6_41_1 (by decide) rfl (hm) ?_
  refine zt_ifF (tgt := 55) (pc' := 51) zdQ_86_48 zm_86 rfl rfl (zneq (by decide)) ?_
  refine zt (pc' := 52) zdQ_86_51 zm_86 rfl rfl ?_
  refine zt (pc' := 56) zdQ_86_52 zm_86 rfl rfl ?_
  exact zte zdQ_86_56 zm_86 rfl
theorem zr_k0 {d : Nat} {w : zW} {v x y z : Int32} {ms : List Value} {pl : Value} (hM : w.1 9 = some (.inr (5, .int 1 :: pl :: .int 0 :: ms))) (h : v < 0 ∨ (1 : Int32) - 1 < v) : zmet (d + 2) 141 [.ref 9, .int v, .int x, .int y, .int z] w (some (.int (-2))) w := by
  refine ⟨_, rfl, Nat.le_of_ble_eq_true rfl, ?_⟩
  show zev (d + 2) 141 0 [some (.ref 9), some (.int v), some (.int x), some (.int y), some (.int z), none, none] [] w _ _
  refine zt (pc' := 1) zdQ_141_0 zm_141 rfl rfl ?_
  refine zt (pc' := 2) zdQ_141_1 zm_141 rfl rfl ?_
  refine zt_V (pc' := 5) zdQ_141_2 zm_141 rfl zq_7_77 rfl (Nat.le_of_ble_eq_true rfl) hM zqv_7_77_5 (by decide) rfl (c_isJoint0 hM h) ?_
  refine zt_ifT (tgt := 30) (pc' := 8) zdQ_141_5 zm_141 rfl rfl (zeq rfl) ?_
  refine zt (pc' := 32) zdQ_141_30 zm_141 rfl rfl ?_
  exact zte zdQ_141_32 zm_141 rfl
theorem zr_k1 {d : Nat} {w : zW} {v x y z : Int32} {ms : List Value} {pl : Value} (hM : w.1 9 = some (.inr (5, .int 1 :: pl :: .int 0 :: ms))) (h1 : ¬ v < 0) (h2 : ¬ (1 : Int32) - 1 < v) (h : x < -4 ∨ 4 < x) : zmet (d + 2) 141 [.ref 9, .int v, .int x, .int y, .int z] w (some (.int (-2))) w := by
  refine ⟨_, rfl, Nat.le_of_ble_eq_true rfl, ?_⟩
  show zev (d + 2) 141 0 [some (.ref 9), some (.int v), some (.int x), some (.int y), some (.int z), none, none] [] w _ _
  refine zt (pc' := 1) zdQ_141_0 zm_141 rfl rfl ?_
  refine zt (pc' := 2) zdQ_141_1 zm_141 rfl rfl ?_
  refine zt_V (pc' := 5) zdQ_141_2 zm_141 rfl zq_7_77 rfl (Nat.le_of_ble_eq_true rfl) hM zqv_7_77_5 (by decide) rfl (c_isJoint1 hM h1 h2) ?_
  refine zt_ifF (tgt := 30) (pc' := 8) zdQ_141_5 zm_141 rfl rfl (zneq (by decide)) ?_
  refine zt (pc' := 9) zdQ_141_8 zm_141 rfl rfl ?_
  refine zt_S (pc' := 12) zdQ_141_9 zm_141 rfl zq_7_81 (Nat.le_of_ble_eq_true rfl) (Nat.le_of_ble_eq_true rfl) rfl (c_isWay0 h) ?_
  refine zt_ifT (tgt := 30) (pc' := 15) zdQ_141_12 zm_141 rfl rfl (zeq rfl) ?_
  refine zt (pc' := 32) zdQ_141_30 zm_141 rfl rfl ?_
  exact zte zdQ_141_32 zm_141 rfl
theorem zr_k2 {d : Nat} {w : zW} {v x y z : Int32} {ms : List Value} {pl : Value} (hM : w.1 9 = some (.inr (5, .int 1 :: pl :: .int 0 :: ms))) (h1 : ¬ v < 0) (h2 : ¬ (1 : Int32) - 1 < v) (nx : ¬ (x < -4 ∨ 4 < x)) (h : y < -4 ∨ 4 < y) : zmet (d + 2) 141 [.ref 9, .int v, .int x, .int y, .int z] w (some (.int (-2))) w := by
  refine ⟨_, rfl, Nat.le_of_ble_eq_true rfl, ?_⟩
  show zev (d + 2) 141 0 [some (.ref 9), some (.int v), some (.int x), some (.int y), some (.int z), none, none] [] w _ _
  refine zt (pc' := 1) zdQ_141_0 zm_141 rfl rfl ?_
  refine zt (pc' := 2) zdQ_141_1 zm_141 rfl rfl ?_
  refine zt_V (pc' := 5) zdQ_141_2 zm_141 rfl zq_7_77 rfl (Nat.le_of_ble_eq_true rfl) hM zqv_7_77_5 (by decide) rfl (c_isJoint1 hM h1 h2) ?_
  refine zt_ifF (tgt := 30) (pc' := 8) zdQ_141_5 zm_141 rfl rfl (zneq (by decide)) ?_
  refine zt (pc' := 9) zdQ_141_8 zm_141 rfl rfl ?_
  refine zt_S (pc' := 12) zdQ_141_9 zm_141 rfl zq_7_81 (Nat.le_of_ble_eq_true rfl) (Nat.le_of_ble_eq_true rfl) rfl (zr_way nx) ?_
  refine zt_ifF (tgt := 30) (pc' := 15) zdQ_141_12 zm_141 rfl rfl (zneq (by decide)) ?_
  refine zt (pc' := 16) zdQ_141_15 zm_141 rfl rfl ?_
  refine zt_S (pc' := 19) zdQ_141_16 zm_141 rfl zq_7_81 (Nat.le_of_ble_eq_true rfl) (Nat.le_of_ble_eq_true rfl) rfl (c_isWay0 h) ?_
  refine zt_ifT (tgt := 30) (pc' := 22) zdQ_141_19 zm_141 rfl rfl (zeq rfl) ?_
  refine zt (pc' := 32) zdQ_141_30 zm_141 rfl rfl ?_
  exact zte zdQ_141_32 zm_141 rfl
theorem zr_k3 {d : Nat} {w : zW} {v x y z : Int32} {ms : List Value} {pl : Value} (hM : w.1 9 = some (.inr (5, .int 1 :: pl :: .int 0 :: ms))) (h1 : ¬ v < 0) (h2 : ¬ (1 : Int32) - 1 < v) (nx : ¬ (x < -4 ∨ 4 < x)) (ny : ¬ (y < -4 ∨ 4 < y)) (h : z < -4 ∨ 4 < z) : zmet (d + 2) 141 [.ref 9, .int v, .int x, .int y, .int z] w (some (.int (-2))) w := by
  refine ⟨_, rfl, Nat.le_of_ble_eq_true rfl, ?_⟩
  show zev (d + 2) 141 0 [some (.ref 9), some (.int v), some (.int x), some (.int y), some (.int z), none, none] [] w _ _
  refine zt (pc' := 1) zdQ_141_0 zm_141 rfl rfl ?_
  refine zt (pc' := 2) zdQ_141_1 zm_141 rfl rfl ?_
  refine zt_V (pc' := 5) zdQ_141_2 zm_141 rfl zq_7_77 rfl (Nat.le_of_ble_eq_true rfl) hM zqv_7_77_5 (by decide) rfl (c_isJoint1 hM h1 h2) ?_
  refine zt_ifF (tgt := 30) (pc' := 8) zdQ_141_5 zm_141 rfl rfl (zneq (by decide)) ?_
  refine zt (pc' := 9) zdQ_141_8 zm_141 rfl rfl ?_
  refine zt_S (pc' := 12) zdQ_141_9 zm_141 rfl zq_7_81 (Nat.le_of_ble_eq_true rfl) (Nat.le_of_ble_eq_true rfl) rfl (zr_way nx) ?_
  refine zt_ifF (tgt := 30) (pc' := 15) zdQ_141_12 zm_141 rfl rfl (zneq (by decide)) ?_
  refine zt (pc' := 16) zdQ_141_15 zm_141 rfl rfl ?_
  refine zt_S (pc' := 19) zdQ_141_16 zm_141 rfl zq_7_81 (Nat.le_of_ble_eq_true rfl) (Nat.le_of_ble_eq_true rfl) rfl (zr_way ny) ?_
  refine zt_ifF (tgt := 30) (pc' := 22) zdQ_141_19 zm_141 rfl rfl (zneq (by decide)) ?_
  refine zt (pc' := 24) zdQ_141_22 zm_141 rfl rfl ?_
  refine zt_S (pc' := 27) zdQ_141_24 zm_141 rfl zq_7_81 (Nat.le_of_ble_eq_true rfl) (Nat.le_of_ble_eq_true rfl) rfl (c_isWay0 h) ?_
  refine zt_ifF (tgt := 33) (pc' := 30) zdQ_141_27 zm_141 rfl rfl (znne rfl) ?_
  refine zt (pc' := 32) zdQ_141_30 zm_141 rfl rfl ?_
  exact zte zdQ_141_32 zm_141 rfl
abbrev zmvW (w : zW) (f : Nat → Int32) (x y z : Int32) : zW := zu (zu (zu (zu w 3 (.inl (0, 21, .inl (upd f 0 x)))) 3 (.inl (0, 21, .inl (upd (upd f 0 x) 1 y)))) 3 (.inl (0, 21, .inl (upd (upd (upd f 0 x) 1 y) 2 z)))) 2 (.inr (1, [.ref 3, .ref 4, .ref 5, .ref 6, .int 1, .int 0, .int 2]))
set_option maxHeartbeats 8000000 in
theorem zr_mvS {d : Nat} {w : zW} {x y z : Int32} {f : Nat → Int32} (F : w.1 2 = some (.inr (1, [.ref 3, .ref 4, .ref 5, .ref 6, .int 1, .int 0, .int 1]))) (P : w.1 3 = some (.inl (0, 21, .inl f))) : zev d 20 45 [some (.ref 2), some (.int 0), some (.int x), some (.int y), some (.int z), some (.int (0 * 3))] [] w (some (.int 1)) (zmvW w f x y z) := by
  refine zt (pc' := 46) zdQ_20_45 zm_20 rfl rfl ?_
  refine zt_get (pc' := 49) zdQ_20_46 zm_20 rfl rfl F (by decide) rfl ?_
  refine zt (pc' := 51) zdQ_20_49 zm_20 rfl rfl ?_
  refine zt (pc' := 52) zdQ_20_51 zm_20 rfl rfl ?_
  refine zt_iau (pc' := 53) zdQ_20_52 zm_20 rfl P (by decide) ?_
  refine zt (pc' := 54) zdQ_20_53 zm_20 rfl rfl ?_
  refine zt_get (pc' := 57) zdQ_20_54 zm_20 rfl rfl ((zu_ne (by decide)).trans F) (by decide) rfl ?_
  refine zt (pc' := 59) zdQ_20_57 zm_20 rfl rfl ?_
  refine zt (pc' := 60) zdQ_20_59 zm_20 rfl rfl ?_
  refine zt (pc' := 61) zdQ_20_60 zm_20 rfl rfl ?_
  refine zt (pc' := 62) zdQ_20_61 zm_20 rfl rfl ?_
  refine zt_iau (pc' := 63) zdQ_20_62 zm_20 rfl zu_self (by decide) ?_
  refine zt (pc' := 64) zdQ_20_63 zm_20 rfl rfl ?_
  refine zt_get (pc' := 67) zdQ_20_64 zm_20 rfl rfl ((zu_ne (by decide)).trans ((zu_ne (by decide)).trans F)) (by decide) rfl ?_
  refine zt (pc' := 69) zdQ_20_67 zm_20 rfl rfl ?_
  refine zt (pc' := 70) zdQ_20_69 zm_20 rfl rfl ?_
  refine zt (pc' := 71) zdQ_20_70 zm_20 rfl rfl ?_
  refine zt (pc' := 73) zdQ_20_71 zm_20 rfl rfl ?_
  refine zt_iau (pc' := 74) zdQ_20_73 zm_20 rfl zu_self (by decide) ?_
  refine zt (pc' := 75) zdQ_20_74 zm_20 rfl rfl ?_
  refine zt (pc' := 76) zdQ_20_75 zm_20 rfl rfl ?_
  refine zt_get (pc' := 79) zdQ_20_76 zm_20 rfl rfl ((zu_ne (by decide)).trans ((zu_ne (by decide)).trans ((zu_ne (by decide)).trans F))) (by decide) rfl ?_
  refine zt (pc' := 80) zdQ_20_79 zm_20 rfl rfl ?_
  refine zt (pc' := 81) zdQ_20_80 zm_20 rfl rfl ?_
  refine zt_puu (pc' := 84) zdQ_20_81 zm_20 rfl rfl ((zu_ne (by decide)).trans ((zu_ne (by decide)).trans ((zu_ne (by decide)).trans F))) (by decide) (by decide) rfl rfl ?_
  refine zt (pc' := 85) zdQ_20_84 zm_20 rfl rfl ?_
  exact zte zdQ_20_85 zm_20 rfl
theorem zr_mv1 {d : Nat} {w : zW} {x y z : Int32} {f : Nat → Int32} (F : w.1 2 = some (.inr (1, [.ref 3, .ref 4, .ref 5, .ref 6, .int 1, .int 0, .int 1]))) (P : w.1 3 = some (.inl (0, 21, .inl f))) (f0 : f 0 = 0) (f1 : f 1 = 0) (f2 : f 2 = 0) (hx : ¬ x = 0) : zmet (d) 20 [.ref 2, .int 0, .int x, .int y, .int z] w (some (.int 1)) (zmvW w f x y z) := by
  refine ⟨_, rfl, Nat.le_of_ble_eq_true rfl, ?_⟩
  show zev (d) 20 0 [some (.ref 2), some (.int 0), some (.int x), some (.int y), some (.int z), none] [] w _ _
  refine zt (pc' := 1) zdQ_20_0 zm_20 rfl rfl ?_
  refine zt (pc' := 2) zdQ_20_1 zm_20 rfl rfl ?_
  refine zt (pc' := 3) zdQ_20_2 zm_20 rfl rfl ?_
  refine zt (pc' := 5) zdQ_20_3 zm_20 rfl rfl ?_
  show zev _ _ _ [_, _, _, _, _, _] _ _ _ _
  refine zt (pc' := 6) zdQ_20_5 zm_20 rfl rfl ?_
  refine zt_get (pc' := 9) zdQ_20_6 zm_20 rfl rfl F (by decide) rfl ?_
  refine zt (pc' := 11) zdQ_20_9 zm_20 rfl rfl ?_
  refine zt_ial (pc' := 12) zdQ_20_11 zm_20 rfl P (by decide) ?_
  refine zt (pc' := 13) zdQ_20_12 zm_20 rfl rfl ?_
  refine zt_icT (tgt := 45) (pc' := 16) zdQ_20_13 zm_20 rfl rfl (zne (fun e => hx (e.symm.trans f0))) ?_
  exact zr_mvS F P
theorem zr_mv2 {d : Nat} {w : zW} {x y z : Int32} {f : Nat → Int32} (F : w.1 2 = some (.inr (1, [.ref 3, .ref 4, .ref 5, .ref 6, .int 1, .int 0, .int 1]))) (P : w.1 3 = some (.inl (0, 21, .inl f))) (f0 : f 0 = 0) (f1 : f 1 = 0) (f2 : f 2 = 0) (hx : x = 0) (hy : ¬ y = 0) : zmet (d) 20 [.ref 2, .int 0, .int x, .int y, .int z] w (some (.int 1)) (zmvW w f x y z) := by
  refine ⟨_, rfl, Nat.le_of_ble_eq_true rfl, ?_⟩
  show zev (d) 20 0 [some (.ref 2), some (.int 0), some (.int x), some (.int y), some (.int z), none] [] w _ _
  refine zt (pc' := 1) zdQ_20_0 zm_20 rfl rfl ?_
  refine zt (pc' := 2) zdQ_20_1 zm_20 rfl rfl ?_
  refine zt (pc' := 3) zdQ_20_2 zm_20 rfl rfl ?_
  refine zt (pc' := 5) zdQ_20_3 zm_20 rfl rfl ?_
  show zev _ _ _ [_, _, _, _, _, _] _ _ _ _
  refine zt (pc' := 6) zdQ_20_5 zm_20 rfl rfl ?_
  refine zt_get (pc' := 9) zdQ_20_6 zm_20 rfl rfl F (by decide) rfl ?_
  refine zt (pc' := 11) zdQ_20_9 zm_20 rfl rfl ?_
  refine zt_ial (pc' := 12) zdQ_20_11 zm_20 rfl P (by decide) ?_
  refine zt (pc' := 13) zdQ_20_12 zm_20 rfl rfl ?_
  refine zt_icF (tgt := 45) (pc' := 16) zdQ_20_13 zm_20 rfl rfl (znne (f0.trans hx.symm)) ?_
  refine zt (pc' := 17) zdQ_20_16 zm_20 rfl rfl ?_
  refine zt_get (pc' := 20) zdQ_20_17 zm_20 rfl rfl F (by decide) rfl ?_
  refine zt (pc' := 22) zdQ_20_20 zm_20 rfl rfl ?_
  refine zt (pc' := 23) zdQ_20_22 zm_20 rfl rfl ?_
  refine zt (pc' := 24) zdQ_20_23 zm_20 rfl rfl ?_
  refine zt_ial (pc' := 25) zdQ_20_24 zm_20 rfl P (by decide) ?_
  refine zt (pc' := 26) zdQ_20_25 zm_20 rfl rfl ?_
  refine zt_icT (tgt := 45) (pc' := 29) zdQ_20_26 zm_20 rfl rfl (zne (fun e => hy (e.symm.trans f1))) ?_
  exact zr_mvS F P
set_option maxHeartbeats 8000000 in
theorem zr_mv3 {d : Nat} {w : zW} {x y z : Int32} {f : Nat → Int32} (F : w.1 2 = some (.inr (1, [.ref 3, .ref 4, .ref 5, .ref 6, .int 1, .int 0, .int 1]))) (P : w.1 3 = some (.inl (0, 21, .inl f))) (f0 : f 0 = 0) (f1 : f 1 = 0) (f2 : f 2 = 0) (hx : x = 0) (hy : y = 0) (hz : ¬ z = 0) : zmet (d) 20 [.ref 2, .int 0, .int x, .int y, .int z] w (some (.int 1)) (zmvW w f x y z) := by
  refine ⟨_, rfl, Nat.le_of_ble_eq_true rfl, ?_⟩
  show zev (d) 20 0 [some (.ref 2), some (.int 0), some (.int x), some (.int y), some (.int z), none] [] w _ _
  refine zt (pc' := 1) zdQ_20_0 zm_20 rfl rfl ?_
  refine zt (pc' := 2) zdQ_20_1 zm_20 rfl rfl ?_
  refine zt (pc' := 3) zdQ_20_2 zm_20 rfl rfl ?_
  refine zt (pc' := 5) zdQ_20_3 zm_20 rfl rfl ?_
  show zev _ _ _ [_, _, _, _, _, _] _ _ _ _
  refine zt (pc' := 6) zdQ_20_5 zm_20 rfl rfl ?_
  refine zt_get (pc' := 9) zdQ_20_6 zm_20 rfl rfl F (by decide) rfl ?_
  refine zt (pc' := 11) zdQ_20_9 zm_20 rfl rfl ?_
  refine zt_ial (pc' := 12) zdQ_20_11 zm_20 rfl P (by decide) ?_
  refine zt (pc' := 13) zdQ_20_12 zm_20 rfl rfl ?_
  refine zt_icF (tgt := 45) (pc' := 16) zdQ_20_13 zm_20 rfl rfl (znne (f0.trans hx.symm)) ?_
  refine zt (pc' := 17) zdQ_20_16 zm_20 rfl rfl ?_
  refine zt_get (pc' := 20) zdQ_20_17 zm_20 rfl rfl F (by decide) rfl ?_
  refine zt (pc' := 22) zdQ_20_20 zm_20 rfl rfl ?_
  refine zt (pc' := 23) zdQ_20_22 zm_20 rfl rfl ?_
  refine zt (pc' := 24) zdQ_20_23 zm_20 rfl rfl ?_
  refine zt_ial (pc' := 25) zdQ_20_24 zm_20 rfl P (by decide) ?_
  refine zt (pc' := 26) zdQ_20_25 zm_20 rfl rfl ?_
  refine zt_icF (tgt := 45) (pc' := 29) zdQ_20_26 zm_20 rfl rfl (znne (f1.trans hy.symm)) ?_
  refine zt (pc' := 30) zdQ_20_29 zm_20 rfl rfl ?_
  refine zt_get (pc' := 33) zdQ_20_30 zm_20 rfl rfl F (by decide) rfl ?_
  refine zt (pc' := 35) zdQ_20_33 zm_20 rfl rfl ?_
  refine zt (pc' := 36) zdQ_20_35 zm_20 rfl rfl ?_
  refine zt (pc' := 37) zdQ_20_36 zm_20 rfl rfl ?_
  refine zt_ial (pc' := 38) zdQ_20_37 zm_20 rfl P (by decide) ?_
  refine zt (pc' := 40) zdQ_20_38 zm_20 rfl rfl ?_
  refine zt_icT (tgt := 45) (pc' := 43) zdQ_20_40 zm_20 rfl rfl (zne (fun e => hz (e.symm.trans f2))) ?_
  exact zr_mvS F P
set_option maxHeartbeats 8000000 in
theorem zr_mv0 {d : Nat} {w : zW} {x y z : Int32} {f : Nat → Int32} (F : w.1 2 = some (.inr (1, [.ref 3, .ref 4, .ref 5, .ref 6, .int 1, .int 0, .int 1]))) (P : w.1 3 = some (.inl (0, 21, .inl f))) (f0 : f 0 = 0) (f1 : f 1 = 0) (f2 : f 2 = 0) (hx : x = 0) (hy : y = 0) (hz : z = 0) : zmet (d) 20 [.ref 2, .int 0, .int x, .int y, .int z] w (some (.int 0)) w := by
  refine ⟨_, rfl, Nat.le_of_ble_eq_true rfl, ?_⟩
  show zev (d) 20 0 [some (.ref 2), some (.int 0), some (.int x), some (.int y), some (.int z), none] [] w _ _
  refine zt (pc' := 1) zdQ_20_0 zm_20 rfl rfl ?_
  refine zt (pc' := 2) zdQ_20_1 zm_20 rfl rfl ?_
  refine zt (pc' := 3) zdQ_20_2 zm_20 rfl rfl ?_
  refine zt (pc' := 5) zdQ_20_3 zm_20 rfl rfl ?_
  show zev _ _ _ [_, _, _, _, _, _] _ _ _ _
  refine zt (pc' := 6) zdQ_20_5 zm_20 rfl rfl ?_
  refine zt_get (pc' := 9) zdQ_20_6 zm_20 rfl rfl F (by decide) rfl ?_
  refine zt (pc' := 11) zdQ_20_9 zm_20 rfl rfl ?_
  refine zt_ial (pc' := 12) zdQ_20_11 zm_20 rfl P (by decide) ?_
  refine zt (pc' := 13) zdQ_20_12 zm_20 rfl rfl ?_
  refine zt_icF (tgt := 45) (pc' := 16) zdQ_20_13 zm_20 rfl rfl (znne (f0.trans hx.symm)) ?_
  refine zt (pc' := 17) zdQ_20_16 zm_20 rfl rfl ?_
  refine zt_get (pc' := 20) zdQ_20_17 zm_20 rfl rfl F (by decide) rfl ?_
  refine zt (pc' := 22) zdQ_20_20 zm_20 rfl rfl ?_
  refine zt (pc' := 23) zdQ_20_22 zm_20 rfl rfl ?_
  refine zt (pc' := 24) zdQ_20_23 zm_20 rfl rfl ?_
  refine zt_ial (pc' := 25) zdQ_20_24 zm_20 rfl P (by decide) ?_
  refine zt (pc' := 26) zdQ_20_25 zm_20 rfl rfl ?_
  refine zt_icF (tgt := 45) (pc' := 29) zdQ_20_26 zm_20 rfl rfl (znne (f1.trans hy.symm)) ?_
  refine zt (pc' := 30) zdQ_20_29 zm_20 rfl rfl ?_
  refine zt_get (pc' := 33) zdQ_20_30 zm_20 rfl rfl F (by decide) rfl ?_
  refine zt (pc' := 35) zdQ_20_33 zm_20 rfl rfl ?_
  refine zt (pc' := 36) zdQ_20_35 zm_20 rfl rfl ?_
  refine zt (pc' := 37) zdQ_20_36 zm_20 rfl rfl ?_
  refine zt_ial (pc' := 38) zdQ_20_37 zm_20 rfl P (by decide) ?_
  refine zt (pc' := 40) zdQ_20_38 zm_20 rfl rfl ?_
  refine zt_icF (tgt := 45) (pc' := 43) zdQ_20_40 zm_20 rfl rfl (znne (f2.trans hz.symm)) ?_
  refine zt (pc' := 44) zdQ_20_43 zm_20 rfl rfl ?_
  exact zte zdQ_20_44 zm_20 rfl
theorem zr_mv {d : Nat} {w : zW} {x y z : Int32} {f : Nat → Int32} (F : w.1 2 = some (.inr (1, [.ref 3, .ref 4, .ref 5, .ref 6, .int 1, .int 0, .int 1]))) (P : w.1 3 = some (.inl (0, 21, .inl f))) (f0 : f 0 = 0) (f1 : f 1 = 0) (f2 : f 2 = 0) (h : ¬ (x = 0 ∧ y = 0 ∧ z = 0)) : zmet d 20 [.ref 2, .int 0, .int x, .int y, .int z] w (some (.int 1)) (zmvW w f x y z) := by
  by_cases hx : x = 0
  · by_cases hy : y = 0
    · exact zr_mv3 F P f0 f1 f2 hx hy (fun e => h ⟨hx, hy, e⟩)
    · exact zr_mv2 F P f0 f1 f2 hx hy
  · exact zr_mv1 F P f0 f1 f2 hx
abbrev zchW (w : zW) (b : Nat → Int32) : zW := zu (zu (zu w 15 (.inl (2, 3, .inl (upd b 0 (vp_nar .boolean 0))))) 15 (.inl (2, 3, .inl (upd (upd b 0 (vp_nar .boolean 0)) 1 (vp_nar .boolean 0))))) 15 (.inl (2, 3, .inl (upd (upd (upd b 0 (vp_nar .boolean 0)) 1 (vp_nar .boolean 0)) 2 (vp_nar .boolean 0))))
theorem zr_cg108 {d : Nat} {w : zW} {b : Nat → Int32} (M : w.1 9 = some (.inr (5, [.int 1, .ref 10, .int 0, .ref 11, .ref 12, .ref 13, .ref 14, .ref 15, .ref 16, .int 0, .int 0, .ref 17, .ref 18, .long 0, .ref 19, .ref 20, .int 0, .ref 21, .int 0, .ref 22, .ref 23, .ref 24, .ref 25, .ref 26]))) (Q : w.1 15 = some (.inl (2, 3, .inl b))) : zmet (d) 108 [.ref 9] w (none) (zchW w b) := by
  refine ⟨_, rfl, Nat.le_of_ble_eq_true rfl, ?_⟩
  show zev (d) 108 0 [some (.ref 9)] [] w _ _
  refine zt (pc' := 1) zdQ_108_0 zm_108 rfl rfl ?_
  refine zt_get (pc' := 4) zdQ_108_1 zm_108 rfl rfl M (by decide) rfl ?_
  refine zt (pc' := 5) zdQ_108_4 zm_108 rfl rfl ?_
  refine zt (pc' := 6) zdQ_108_5 zm_108 rfl rfl ?_
  refine zt_bau (pc' := 7) zdQ_108_6 zm_108 rfl Q (by decide) ?_
  refine zt (pc' := 8) zdQ_108_7 zm_108 rfl rfl ?_
  refine zt_get (pc' := 11) zdQ_108_8 zm_108 rfl rfl ((zu_ne (by decide)).trans M) (by decide) rfl ?_
  refine zt (pc' := 12) zdQ_108_11 zm_108 rfl rfl ?_
  refine zt (pc' := 13) zdQ_108_12 zm_108 rfl rfl ?_
  refine zt_bau (pc' := 14) zdQ_108_13 zm_108 rfl zu_self (by decide) ?_
  refine zt (pc' := 15) zdQ_108_14 zm_108 rfl rfl ?_
  refine zt_get (pc' := 18) zdQ_108_15 zm_108 rfl rfl ((zu_ne (by decide)).trans ((zu_ne (by decide)).trans M)) (by decide) rfl ?_
  refine zt (pc' := 19) zdQ_108_18 zm_108 rfl rfl ?_
  refine zt (pc' := 20) zdQ_108_19 zm_108 rfl rfl ?_
  refine zt_bau (pc' := 21) zdQ_108_20 zm_108 rfl zu_self (by decide) ?_
  exact zte zdQ_108_21 zm_108 rfl
set_option maxHeartbeats 8000000 in
theorem zr_jS0 {d : Nat} {w : zW} {x y z : Int32} {f b : Nat → Int32} (M : w.1 9 = some (.inr (5, [.int 1, .ref 10, .int 0, .ref 11, .ref 12, .ref 13, .ref 14, .ref 15, .ref 16, .int 0, .int 0, .ref 17, .ref 18, .long 0, .ref 19, .ref 20, .int 0, .ref 21, .int 0, .ref 22, .ref 23, .ref 24, .ref 25, .ref 26]))) (P : w.1 10 = some (.inl (0, 21, .inl f))) (Q : w.1 15 = some (.inl (2, 3, .inl b))) : zev (d + 1) 141 83 [some (.ref 9), some (.int 0), some (.int x), some (.int y), some (.int z), some (.int (3 * 0)), some (.int 0)] [] w (some (.int 0)) (zchW (zu (zu (zu w 10 (.inl (0, 21, .inl (upd f 0 x)))) 10 (.inl (0, 21, .inl (upd (upd f 0 x) 1 y)))) 10 (.inl (0, 21, .inl (upd (upd (upd f 0 x) 1 y) 2 z)))) b) := by
  refine zt (pc' := 84) zdQ_141_83 zm_141 rfl rfl ?_
  refine zt_get (pc' := 87) zdQ_141_84 zm_141 rfl rfl M (by decide) rfl ?_
  refine zt (pc' := 89) zdQ_141_87 zm_141 rfl rfl ?_
  refine zt (pc' := 90) zdQ_141_89 zm_141 rfl rfl ?_
  refine zt_iau (pc' := 91) zdQ_141_90 zm_141 rfl P (by decide) ?_
  refine zt (pc' := 92) zdQ_141_91 zm_141 rfl rfl ?_
  refine zt_get (pc' := 95) zdQ_141_92 zm_141 rfl rfl ((zu_ne (by decide)).trans M) (by decide) rfl ?_
  refine zt (pc' := 97) zdQ_141_95 zm_141 rfl rfl ?_
  refine zt (pc' := 98) zdQ_141_97 zm_141 rfl rfl ?_
  refine zt (pc' := 99) zdQ_141_98 zm_141 rfl rfl ?_
  refine zt (pc' := 100) zdQ_141_99 zm_141 rfl rfl ?_
  refine zt_iau (pc' := 101) zdQ_141_100 zm_141 rfl zu_self (by decide) ?_
  refine zt (pc' := 102) zdQ_141_101 zm_141 rfl rfl ?_
  refine zt_get (pc' := 105) zdQ_141_102 zm_141 rfl rfl ((zu_ne (by decide)).trans ((zu_ne (by decide)).trans M)) (by decide) rfl ?_
  refine zt (pc' := 107) zdQ_141_105 zm_141 rfl rfl ?_
  refine zt (pc' := 108) zdQ_141_107 zm_141 rfl rfl ?_
  refine zt (pc' := 109) zdQ_141_108 zm_141 rfl rfl ?_
  refine zt (pc' := 111) zdQ_141_109 zm_141 rfl rfl ?_
  refine zt_iau (pc' := 112) zdQ_141_111 zm_141 rfl zu_self (by decide) ?_
  refine zt (pc' := 113) zdQ_141_112 zm_141 rfl rfl ?_
  refine zt_V (pc' := 116) zdQ_141_113 zm_141 rfl zq_7_67 rfl (Nat.le_of_ble_eq_true rfl) ((zu_ne (by decide)).trans ((zu_ne (by decide)).trans ((zu_ne (by decide)).trans M))) zqv_7_67_5 (by decide) rfl (zr_cg108 ((zu_ne (by decide)).trans ((zu_ne (by decide)).trans ((zu_ne (by decide)).trans M))) ((zu_ne (by decide)).trans ((zu_ne (by decide)).trans ((zu_ne (by decide)).trans Q)))) ?_
  refine zt (pc' := 118) zdQ_141_116 zm_141 rfl rfl ?_
  refine zt_ifT (tgt := 125) (pc' := 121) zdQ_141_118 zm_141 rfl rfl (zeq rfl) ?_
  refine zt (pc' := 126) zdQ_141_125 zm_141 rfl rfl ?_
  exact zte zdQ_141_126 zm_141 rfl
set_option maxHeartbeats 8000000 in
theorem zr_jS1 {d : Nat} {w : zW} {x y z : Int32} {f b : Nat → Int32} (M : w.1 9 = some (.inr (5, [.int 1, .ref 10, .int 0, .ref 11, .ref 12, .ref 13, .ref 14, .ref 15, .ref 16, .int 0, .int 0, .ref 17, .ref 18, .long 0, .ref 19, .ref 20, .int 0, .ref 21, .int 0, .ref 22, .ref 23, .ref 24, .ref 25, .ref 26]))) (P : w.1 10 = some (.inl (0, 21, .inl f))) (Q : w.1 15 = some (.inl (2, 3, .inl b))) : zev (d + 1) 141 83 [some (.ref 9), some (.int 0), some (.int x), some (.int y), some (.int z), some (.int (3 * 0)), some (.int 1)] [] w (some (.int 1)) (zchW (zu (zu (zu w 10 (.inl (0, 21, .inl (upd f 0 x)))) 10 (.inl (0, 21, .inl (upd (upd f 0 x) 1 y)))) 10 (.inl (0, 21, .inl (upd (upd (upd f 0 x) 1 y) 2 z)))) b) := by
  refine zt (pc' := 84) zdQ_141_83 zm_141 rfl rfl ?_
  refine zt_get (pc' := 87) zdQ_141_84 zm_141 rfl rfl M (by decide) rfl ?_
  refine zt (pc' := 89) zdQ_141_87 zm_141 rfl rfl ?_
  refine zt (pc' := 90) zdQ_141_89 zm_141 rfl rfl ?_
  refine zt_iau (pc' := 91) zdQ_141_90 zm_141 rfl P (by decide) ?_
  refine zt (pc' := 92) zdQ_141_91 zm_141 rfl rfl ?_
  refine zt_get (pc' := 95) zdQ_141_92 zm_141 rfl rfl ((zu_ne (by decide)).trans M) (by decide) rfl ?_
  refine zt (pc' := 97) zdQ_141_95 zm_141 rfl rfl ?_
  refine zt (pc' := 98) zdQ_141_97 zm_141 rfl rfl ?_
  refine zt (pc' := 99) zdQ_141_98 zm_141 rfl rfl ?_
  refine zt (pc' := 100) zdQ_141_99 zm_141 rfl rfl ?_
  refine zt_iau (pc' := 101) zdQ_141_100 zm_141 rfl zu_self (by decide) ?_
  refine zt (pc' := 102) zdQ_141_101 zm_141 rfl rfl ?_
  refine zt_get (pc' := 105) zdQ_141_102 zm_141 rfl rfl ((zu_ne (by decide)).trans ((zu_ne (by decide)).trans M)) (by decide) rfl ?_
  refine zt (pc' := 107) zdQ_141_105 zm_141 rfl rfl ?_
  refine zt (pc' := 108) zdQ_141_107 zm_141 rfl rfl ?_
  refine zt (pc' := 109) zdQ_141_108 zm_141 rfl rfl ?_
  refine zt (pc' := 111) zdQ_141_109 zm_141 rfl rfl ?_
  refine zt_iau (pc' := 112) zdQ_141_111 zm_141 rfl zu_self (by decide) ?_
  refine zt (pc' := 113) zdQ_141_112 zm_141 rfl rfl ?_
  refine zt_V (pc' := 116) zdQ_141_113 zm_141 rfl zq_7_67 rfl (Nat.le_of_ble_eq_true rfl) ((zu_ne (by decide)).trans ((zu_ne (by decide)).trans ((zu_ne (by decide)).trans M))) zqv_7_67_5 (by decide) rfl (zr_cg108 ((zu_ne (by decide)).trans ((zu_ne (by decide)).trans ((zu_ne (by decide)).trans M))) ((zu_ne (by decide)).trans ((zu_ne (by decide)).trans ((zu_ne (by decide)).trans Q)))) ?_
  refine zt (pc' := 118) zdQ_141_116 zm_141 rfl rfl ?_
  refine zt_ifF (tgt := 125) (pc' := 121) zdQ_141_118 zm_141 rfl rfl (zneq (by decide)) ?_
  refine zt (pc' := 122) zdQ_141_121 zm_141 rfl rfl ?_
  refine zt (pc' := 126) zdQ_141_122 zm_141 rfl rfl ?_
  exact zte zdQ_141_126 zm_141 rfl
set_option maxHeartbeats 8000000 in
theorem zr_rj1 {d : Nat} {w : zW} {x y z : Int32} {f b : Nat → Int32} (M : w.1 9 = some (.inr (5, [.int 1, .ref 10, .int 0, .ref 11, .ref 12, .ref 13, .ref 14, .ref 15, .ref 16, .int 0, .int 0, .ref 17, .ref 18, .long 0, .ref 19, .ref 20, .int 0, .ref 21, .int 0, .ref 22, .ref 23, .ref 24, .ref 25, .ref 26]))) (P : w.1 10 = some (.inl (0, 21, .inl f))) (Q : w.1 15 = some (.inl (2, 3, .inl b))) (f0 : f 0 = 0) (f1 : f 1 = 0) (f2 : f 2 = 0) (nx : ¬ (x < -4 ∨ 4 < x)) (ny : ¬ (y < -4 ∨ 4 < y)) (nz : ¬ (z < -4 ∨ 4 < z)) (hx : ¬ x = 0) : zmet (d + 2) 141 [.ref 9, .int 0, .int x, .int y, .int z] w (some (.int 1)) (zchW (zu (zu (zu w 10 (.inl (0, 21, .inl (upd f 0 x)))) 10 (.inl (0, 21, .inl (upd (upd f 0 x) 1 y)))) 10 (.inl (0, 21, .inl (upd (upd (upd f 0 x) 1 y) 2 z)))) b) := by
  refine ⟨_, rfl, Nat.le_of_ble_eq_true rfl, ?_⟩
  show zev (d + 2) 141 0 [some (.ref 9), some (.int 0), some (.int x), some (.int y), some (.int z), none, none] [] w _ _
  refine zt (pc' := 1) zdQ_141_0 zm_141 rfl rfl ?_
  refine zt (pc' := 2) zdQ_141_1 zm_141 rfl rfl ?_
  refine zt_V (pc' := 5) zdQ_141_2 zm_141 rfl zq_7_77 rfl (Nat.le_of_ble_eq_true rfl) M zqv_7_77_5 (by decide) rfl (c_isJoint1 M (by decide) (by decide)) ?_
  refine zt_ifF (tgt := 30) (pc' := 8) zdQ_141_5 zm_141 rfl rfl (zneq (by decide)) ?_
  refine zt (pc' := 9) zdQ_141_8 zm_141 rfl rfl ?_
  refine zt_S (pc' := 12) zdQ_141_9 zm_141 rfl zq_7_81 (Nat.le_of_ble_eq_true rfl) (Nat.le_of_ble_eq_true rfl) rfl (zr_way nx) ?_
  refine zt_ifF (tgt := 30) (pc' := 15) zdQ_141_12 zm_141 rfl rfl (zneq (by decide)) ?_
  refine zt (pc' := 16) zdQ_141_15 zm_141 rfl rfl ?_
  refine zt_S (pc' := 19) zdQ_141_16 zm_141 rfl zq_7_81 (Nat.le_of_ble_eq_true rfl) (Nat.le_of_ble_eq_true rfl) rfl (zr_way ny) ?_
  refine zt_ifF (tgt := 30) (pc' := 22) zdQ_141_19 zm_141 rfl rfl (zneq (by decide)) ?_
  refine zt (pc' := 24) zdQ_141_22 zm_141 rfl rfl ?_
  refine zt_S (pc' := 27) zdQ_141_24 zm_141 rfl zq_7_81 (Nat.le_of_ble_eq_true rfl) (Nat.le_of_ble_eq_true rfl) rfl (zr_way nz) ?_
  refine zt_ifT (tgt := 33) (pc' := 30) zdQ_141_27 zm_141 rfl rfl (zne (by decide)) ?_
  refine zt (pc' := 34) zdQ_141_33 zm_141 rfl rfl ?_
  refine zt (pc' := 35) zdQ_141_34 zm_141 rfl rfl ?_
  refine zt (pc' := 36) zdQ_141_35 zm_141 rfl rfl ?_
  refine zt (pc' := 38) zdQ_141_36 zm_141 rfl rfl ?_
  show zev _ _ _ [_, _, _, _, _, _, _] _ _ _ _
  refine zt (pc' := 39) zdQ_141_38 zm_141 rfl rfl ?_
  refine zt_get (pc' := 42) zdQ_141_39 zm_141 rfl rfl M (by decide) rfl ?_
  refine zt (pc' := 44) zdQ_141_42 zm_141 rfl rfl ?_
  refine zt_ial (pc' := 45) zdQ_141_44 zm_141 rfl P (by decide) ?_
  refine zt (pc' := 46) zdQ_141_45 zm_141 rfl rfl ?_
  refine zt_icT (tgt := 76) (pc' := 49) zdQ_141_46 zm_141 rfl rfl (zne (fun e => hx (e.symm.trans f0))) ?_
  refine zt (pc' := 77) zdQ_141_76 zm_141 rfl rfl ?_
  refine zt (pc' := 81) zdQ_141_77 zm_141 rfl rfl ?_
  refine zt (pc' := 83) zdQ_141_81 zm_141 rfl rfl ?_
  show zev _ _ _ [_, _, _, _, _, _, _] _ _ _ _
  exact zr_jS1 M P Q
set_option maxHeartbeats 8000000 in
theorem zr_rj2 {d : Nat} {w : zW} {x y z : Int32} {f b : Nat → Int32} (M : w.1 9 = some (.inr (5, [.int 1, .ref 10, .int 0, .ref 11, .ref 12, .ref 13, .ref 14, .ref 15, .ref 16, .int 0, .int 0, .ref 17, .ref 18, .long 0, .ref 19, .ref 20, .int 0, .ref 21, .int 0, .ref 22, .ref 23, .ref 24, .ref 25, .ref 26]))) (P : w.1 10 = some (.inl (0, 21, .inl f))) (Q : w.1 15 = some (.inl (2, 3, .inl b))) (f0 : f 0 = 0) (f1 : f 1 = 0) (f2 : f 2 = 0) (nx : ¬ (x < -4 ∨ 4 < x)) (ny : ¬ (y < -4 ∨ 4 < y)) (nz : ¬ (z < -4 ∨ 4 < z)) (hx : x = 0) (hy : ¬ y = 0) : zmet (d + 2) 141 [.ref 9, .int 0, .int x, .int y, .int z] w (some (.int 1)) (zchW (zu (zu (zu w 10 (.inl (0, 21, .inl (upd f 0 x)))) 10 (.inl (0, 21, .inl (upd (upd f 0 x) 1 y)))) 10 (.inl (0, 21, .inl (upd (upd (upd f 0 x) 1 y) 2 z)))) b) := by
  refine ⟨_, rfl, Nat.le_of_ble_eq_true rfl, ?_⟩
  show zev (d + 2) 141 0 [some (.ref 9), some (.int 0), some (.int x), some (.int y), some (.int z), none, none] [] w _ _
  refine zt (pc' := 1) zdQ_141_0 zm_141 rfl rfl ?_
  refine zt (pc' := 2) zdQ_141_1 zm_141 rfl rfl ?_
  refine zt_V (pc' := 5) zdQ_141_2 zm_141 rfl zq_7_77 rfl (Nat.le_of_ble_eq_true rfl) M zqv_7_77_5 (by decide) rfl (c_isJoint1 M (by decide) (by decide)) ?_
  refine zt_ifF (tgt := 30) (pc' := 8) zdQ_141_5 zm_141 rfl rfl (zneq (by decide)) ?_
  refine zt (pc' := 9) zdQ_141_8 zm_141 rfl rfl ?_
  refine zt_S (pc' := 12) zdQ_141_9 zm_141 rfl zq_7_81 (Nat.le_of_ble_eq_true rfl) (Nat.le_of_ble_eq_true rfl) rfl (zr_way nx) ?_
  refine zt_ifF (tgt := 30) (pc' := 15) zdQ_141_12 zm_141 rfl rfl (zneq (by decide)) ?_
  refine zt (pc' := 16) zdQ_141_15 zm_141 rfl rfl ?_
  refine zt_S (pc' := 19) zdQ_141_16 zm_141 rfl zq_7_81 (Nat.le_of_ble_eq_true rfl) (Nat.le_of_ble_eq_true rfl) rfl (zr_way ny) ?_
  refine zt_ifF (tgt := 30) (pc' := 22) zdQ_141_19 zm_141 rfl rfl (zneq (by decide)) ?_
  refine zt (pc' := 24) zdQ_141_22 zm_141 rfl rfl ?_
  refine zt_S (pc' := 27) zdQ_141_24 zm_141 rfl zq_7_81 (Nat.le_of_ble_eq_true rfl) (Nat.le_of_ble_eq_true rfl) rfl (zr_way nz) ?_
  refine zt_ifT (tgt := 33) (pc' := 30) zdQ_141_27 zm_141 rfl rfl (zne (by decide)) ?_
  refine zt (pc' := 34) zdQ_141_33 zm_141 rfl rfl ?_
  refine zt (pc' := 35) zdQ_141_34 zm_141 rfl rfl ?_
  refine zt (pc' := 36) zdQ_141_35 zm_141 rfl rfl ?_
  refine zt (pc' := 38) zdQ_141_36 zm_141 rfl rfl ?_
  show zev _ _ _ [_, _, _, _, _, _, _] _ _ _ _
  refine zt (pc' := 39) zdQ_141_38 zm_141 rfl rfl ?_
  refine zt_get (pc' := 42) zdQ_141_39 zm_141 rfl rfl M (by decide) rfl ?_
  refine zt (pc' := 44) zdQ_141_42 zm_141 rfl rfl ?_
  refine zt_ial (pc' := 45) zdQ_141_44 zm_141 rfl P (by decide) ?_
  refine zt (pc' := 46) zdQ_141_45 zm_141 rfl rfl ?_
  refine zt_icF (tgt := 76) (pc' := 49) zdQ_141_46 zm_141 rfl rfl (znne (f0.trans hx.symm)) ?_
  refine zt (pc' := 50) zdQ_141_49 zm_141 rfl rfl ?_
  refine zt_get (pc' := 53) zdQ_141_50 zm_141 rfl rfl M (by decide) rfl ?_
  refine zt (pc' := 55) zdQ_141_53 zm_141 rfl rfl ?_
  refine zt (pc' := 56) zdQ_141_55 zm_141 rfl rfl ?_
  refine zt (pc' := 57) zdQ_141_56 zm_141 rfl rfl ?_
  refine zt_ial (pc' := 58) zdQ_141_57 zm_141 rfl P (by decide) ?_
  refine zt (pc' := 59) zdQ_141_58 zm_141 rfl rfl ?_
  refine zt_icT (tgt := 76) (pc' := 62) zdQ_141_59 zm_141 rfl rfl (zne (fun e => hy (e.symm.trans f1))) ?_
  refine zt (pc' := 77) zdQ_141_76 zm_141 rfl rfl ?_
  refine zt (pc' := 81) zdQ_141_77 zm_141 rfl rfl ?_
  refine zt (pc' := 83) zdQ_141_81 zm_141 rfl rfl ?_
  show zev _ _ _ [_, _, _, _, _, _, _] _ _ _ _
  exact zr_jS1 M P Q
set_option maxHeartbeats 8000000 in
theorem zr_rj3 {d : Nat} {w : zW} {x y z : Int32} {f b : Nat → Int32} (M : w.1 9 = some (.inr (5, [.int 1, .ref 10, .int 0, .ref 11, .ref 12, .ref 13, .ref 14, .ref 15, .ref 16, .int 0, .int 0, .ref 17, .ref 18, .long 0, .ref 19, .ref 20, .int 0, .ref 21, .int 0, .ref 22, .ref 23, .ref 24, .ref 25, .ref 26]))) (P : w.1 10 = some (.inl (0, 21, .inl f))) (Q : w.1 15 = some (.inl (2, 3, .inl b))) (f0 : f 0 = 0) (f1 : f 1 = 0) (f2 : f 2 = 0) (nx : ¬ (x < -4 ∨ 4 < x)) (ny : ¬ (y < -4 ∨ 4 < y)) (nz : ¬ (z < -4 ∨ 4 < z)) (hx : x = 0) (hy : y = 0) (hz : ¬ z = 0) : zmet (d + 2) 141 [.ref 9, .int 0, .int x, .int y, .int z] w (some (.int 1)) (zchW (zu (zu (zu w 10 (.inl (0, 21, .inl (upd f 0 x)))) 10 (.inl (0, 21, .inl (upd (upd f 0 x) 1 y)))) 10 (.inl (0, 21, .inl (upd (upd (upd f 0 x) 1 y) 2 z)))) b) := by
  refine ⟨_, rfl, Nat.le_of_ble_eq_true rfl, ?_⟩
  show zev (d + 2) 141 0 [some (.ref 9), some (.int 0), some (.int x), some (.int y), some (.int z), none, none] [] w _ _
  refine zt (pc' := 1) zdQ_141_0 zm_141 rfl rfl ?_
  refine zt (pc' := 2) zdQ_141_1 zm_141 rfl rfl ?_
  refine zt_V (pc' := 5) zdQ_141_2 zm_141 rfl zq_7_77 rfl (Nat.le_of_ble_eq_true rfl) M zqv_7_77_5 (by decide) rfl (c_isJoint1 M (by decide) (by decide)) ?_
  refine zt_ifF (tgt := 30) (pc' := 8) zdQ_141_5 zm_141 rfl rfl (zneq (by decide)) ?_
  refine zt (pc' := 9) zdQ_141_8 zm_141 rfl rfl ?_
  refine zt_S (pc' := 12) zdQ_141_9 zm_141 rfl zq_7_81 (Nat.le_of_ble_eq_true rfl) (Nat.le_of_ble_eq_true rfl) rfl (zr_way nx) ?_
  refine zt_ifF (tgt := 30) (pc' := 15) zdQ_141_12 zm_141 rfl rfl (zneq (by decide)) ?_
  refine zt (pc' := 16) zdQ_141_15 zm_141 rfl rfl ?_
  refine zt_S (pc' := 19) zdQ_141_16 zm_141 rfl zq_7_81 (Nat.le_of_ble_eq_true rfl) (Nat.le_of_ble_eq_true rfl) rfl (zr_way ny) ?_
  refine zt_ifF (tgt := 30) (pc' := 22) zdQ_141_19 zm_141 rfl rfl (zneq (by decide)) ?_
  refine zt (pc' := 24) zdQ_141_22 zm_141 rfl rfl ?_
  refine zt_S (pc' := 27) zdQ_141_24 zm_141 rfl zq_7_81 (Nat.le_of_ble_eq_true rfl) (Nat.le_of_ble_eq_true rfl) rfl (zr_way nz) ?_
  refine zt_ifT (tgt := 33) (pc' := 30) zdQ_141_27 zm_141 rfl rfl (zne (by decide)) ?_
  refine zt (pc' := 34) zdQ_141_33 zm_141 rfl rfl ?_
  refine zt (pc' := 35) zdQ_141_34 zm_141 rfl rfl ?_
  refine zt (pc' := 36) zdQ_141_35 zm_141 rfl rfl ?_
  refine zt (pc' := 38) zdQ_141_36 zm_141 rfl rfl ?_
  show zev _ _ _ [_, _, _, _, _, _, _] _ _ _ _
  refine zt (pc' := 39) zdQ_141_38 zm_141 rfl rfl ?_
  refine zt_get (pc' := 42) zdQ_141_39 zm_141 rfl rfl M (by decide) rfl ?_
  refine zt (pc' := 44) zdQ_141_42 zm_141 rfl rfl ?_
  refine zt_ial (pc' := 45) zdQ_141_44 zm_141 rfl P (by decide) ?_
  refine zt (pc' := 46) zdQ_141_45 zm_141 rfl rfl ?_
  refine zt_icF (tgt := 76) (pc' := 49) zdQ_141_46 zm_141 rfl rfl (znne (f0.trans hx.symm)) ?_
  refine zt (pc' := 50) zdQ_141_49 zm_141 rfl rfl ?_
  refine zt_get (pc' := 53) zdQ_141_50 zm_141 rfl rfl M (by decide) rfl ?_
  refine zt (pc' := 55) zdQ_141_53 zm_141 rfl rfl ?_
  refine zt (pc' := 56) zdQ_141_55 zm_141 rfl rfl ?_
  refine zt (pc' := 57) zdQ_141_56 zm_141 rfl rfl ?_
  refine zt_ial (pc' := 58) zdQ_141_57 zm_141 rfl P (by decide) ?_
  refine zt (pc' := 59) zdQ_141_58 zm_141 rfl rfl ?_
  refine zt_icF (tgt := 76) (pc' := 62) zdQ_141_59 zm_141 rfl rfl (znne (f1.trans hy.symm)) ?_
  refine zt (pc' := 63) zdQ_141_62 zm_141 rfl rfl ?_
  refine zt_get (pc' := 66) zdQ_141_63 zm_141 rfl rfl M (by decide) rfl ?_
  refine zt (pc' := 68) zdQ_141_66 zm_141 rfl rfl ?_
  refine zt (pc' := 69) zdQ_141_68 zm_141 rfl rfl ?_
  refine zt (pc' := 70) zdQ_141_69 zm_141 rfl rfl ?_
  refine zt_ial (pc' := 71) zdQ_141_70 zm_141 rfl P (by decide) ?_
  refine zt (pc' := 73) zdQ_141_71 zm_141 rfl rfl ?_
  refine zt_icF (tgt := 80) (pc' := 76) zdQ_141_73 zm_141 rfl rfl (zneq (fun e => hz (e.symm.trans f2))) ?_
  refine zt (pc' := 77) zdQ_141_76 zm_141 rfl rfl ?_
  refine zt (pc' := 81) zdQ_141_77 zm_141 rfl rfl ?_
  refine zt (pc' := 83) zdQ_141_81 zm_141 rfl rfl ?_
  show zev _ _ _ [_, _, _, _, _, _, _] _ _ _ _
  exact zr_jS1 M P Q
set_option maxHeartbeats 8000000 in
theorem zr_rj0 {d : Nat} {w : zW} {x y z : Int32} {f b : Nat → Int32} (M : w.1 9 = some (.inr (5, [.int 1, .ref 10, .int 0, .ref 11, .ref 12, .ref 13, .ref 14, .ref 15, .ref 16, .int 0, .int 0, .ref 17, .ref 18, .long 0, .ref 19, .ref 20, .int 0, .ref 21, .int 0, .ref 22, .ref 23, .ref 24, .ref 25, .ref 26]))) (P : w.1 10 = some (.inl (0, 21, .inl f))) (Q : w.1 15 = some (.inl (2, 3, .inl b))) (f0 : f 0 = 0) (f1 : f 1 = 0) (f2 : f 2 = 0) (nx : ¬ (x < -4 ∨ 4 < x)) (ny : ¬ (y < -4 ∨ 4 < y)) (nz : ¬ (z < -4 ∨ 4 < z)) (hx : x = 0) (hy : y = 0) (hz : z = 0) : zmet (d + 2) 141 [.ref 9, .int 0, .int x, .int y, .int z] w (some (.int 0)) (zchW (zu (zu (zu w 10 (.inl (0, 21, .inl (upd f 0 x)))) 10 (.inl (0, 21, .inl (upd (upd f 0 x) 1 y)))) 10 (.inl (0, 21, .inl (upd (upd (upd f 0 x) 1 y) 2 z)))) b) := by
  refine ⟨_, rfl, Nat.le_of_ble_eq_true rfl, ?_⟩
  show zev (d + 2) 141 0 [some (.ref 9), some (.int 0), some (.int x), some (.int y), some (.int z), none, none] [] w _ _
  refine zt (pc' := 1) zdQ_141_0 zm_141 rfl rfl ?_
  refine zt (pc' := 2) zdQ_141_1 zm_141 rfl rfl ?_
  refine zt_V (pc' := 5) zdQ_141_2 zm_141 rfl zq_7_77 rfl (Nat.le_of_ble_eq_true rfl) M zqv_7_77_5 (by decide) rfl (c_isJoint1 M (by decide) (by decide)) ?_
  refine zt_ifF (tgt := 30) (pc' := 8) zdQ_141_5 zm_141 rfl rfl (zneq (by decide)) ?_
  refine zt (pc' := 9) zdQ_141_8 zm_141 rfl rfl ?_
  refine zt_S (pc' := 12) zdQ_141_9 zm_141 rfl zq_7_81 (Nat.le_of_ble_eq_true rfl) (Nat.le_of_ble_eq_true rfl) rfl (zr_way nx) ?_
  refine zt_ifF (tgt := 30) (pc' := 15) zdQ_141_12 zm_141 rfl rfl (zneq (by decide)) ?_
  refine zt (pc' := 16) zdQ_141_15 zm_141 rfl rfl ?_
  refine zt_S (pc' := 19) zdQ_141_16 zm_141 rfl zq_7_81 (Nat.le_of_ble_eq_true rfl) (Nat.le_of_ble_eq_true rfl) rfl (zr_way ny) ?_
  refine zt_ifF (tgt := 30) (pc' := 22) zdQ_141_19 zm_141 rfl rfl (zneq (by decide)) ?_
  refine zt (pc' := 24) zdQ_141_22 zm_141 rfl rfl ?_
  refine zt_S (pc' := 27) zdQ_141_24 zm_141 rfl zq_7_81 (Nat.le_of_ble_eq_true rfl) (Nat.le_of_ble_eq_true rfl) rfl (zr_way nz) ?_
  refine zt_ifT (tgt := 33) (pc' := 30) zdQ_141_27 zm_141 rfl rfl (zne (by decide)) ?_
  refine zt (pc' := 34) zdQ_141_33 zm_141 rfl rfl ?_
  refine zt (pc' := 35) zdQ_141_34 zm_141 rfl rfl ?_
  refine zt (pc' := 36) zdQ_141_35 zm_141 rfl rfl ?_
  refine zt (pc' := 38) zdQ_141_36 zm_141 rfl rfl ?_
  show zev _ _ _ [_, _, _, _, _, _, _] _ _ _ _
  refine zt (pc' := 39) zdQ_141_38 zm_141 rfl rfl ?_
  refine zt_get (pc' := 42) zdQ_141_39 zm_141 rfl rfl M (by decide) rfl ?_
  refine zt (pc' := 44) zdQ_141_42 zm_141 rfl rfl ?_
  refine zt_ial (pc' := 45) zdQ_141_44 zm_141 rfl P (by decide) ?_
  refine zt (pc' := 46) zdQ_141_45 zm_141 rfl rfl ?_
  refine zt_icF (tgt := 76) (pc' := 49) zdQ_141_46 zm_141 rfl rfl (znne (f0.trans hx.symm)) ?_
  refine zt (pc' := 50) zdQ_141_49 zm_141 rfl rfl ?_
  refine zt_get (pc' := 53) zdQ_141_50 zm_141 rfl rfl M (by decide) rfl ?_
  refine zt (pc' := 55) zdQ_141_53 zm_141 rfl rfl ?_
  refine zt (pc' := 56) zdQ_141_55 zm_141 rfl rfl ?_
  refine zt (pc' := 57) zdQ_141_56 zm_141 rfl rfl ?_
  refine zt_ial (pc' := 58) zdQ_141_57 zm_141 rfl P (by decide) ?_
  refine zt (pc' := 59) zdQ_141_58 zm_141 rfl rfl ?_
  refine zt_icF (tgt := 76) (pc' := 62) zdQ_141_59 zm_141 rfl rfl (znne (f1.trans hy.symm)) ?_
  refine zt (pc' := 63) zdQ_141_62 zm_141 rfl rfl ?_
  refine zt_get (pc' := 66) zdQ_141_63 zm_141 rfl rfl M (by decide) rfl ?_
  refine zt (pc' := 68) zdQ_141_66 zm_141 rfl rfl ?_
  refine zt (pc' := 69) zdQ_141_68 zm_141 rfl rfl ?_
  refine zt (pc' := 70) zdQ_141_69 zm_141 rfl rfl ?_
  refine zt_ial (pc' := 71) zdQ_141_70 zm_141 rfl P (by decide) ?_
  refine zt (pc' := 73) zdQ_141_71 zm_141 rfl rfl ?_
  refine zt_icT (tgt := 80) (pc' := 76) zdQ_141_73 zm_141 rfl rfl (zeq (f2.trans hz.symm)) ?_
  refine zt (pc' := 81) zdQ_141_80 zm_141 rfl rfl ?_
  refine zt (pc' := 83) zdQ_141_81 zm_141 rfl rfl ?_
  show zev _ _ _ [_, _, _, _, _, _, _] _ _ _ _
  exact zr_jS0 M P Q
theorem zr_rj {d : Nat} {w : zW} {x y z : Int32} {f b : Nat → Int32} (M : w.1 9 = some (.inr (5, [.int 1, .ref 10, .int 0, .ref 11, .ref 12, .ref 13, .ref 14, .ref 15, .ref 16, .int 0, .int 0, .ref 17, .ref 18, .long 0, .ref 19, .ref 20, .int 0, .ref 21, .int 0, .ref 22, .ref 23, .ref 24, .ref 25, .ref 26]))) (P : w.1 10 = some (.inl (0, 21, .inl f))) (Q : w.1 15 = some (.inl (2, 3, .inl b))) (f0 : f 0 = 0) (f1 : f 1 = 0) (f2 : f 2 = 0) (nx : ¬ (x < -4 ∨ 4 < x)) (ny : ¬ (y < -4 ∨ 4 < y)) (nz : ¬ (z < -4 ∨ 4 < z)) (h : ¬ (x = 0 ∧ y = 0 ∧ z = 0)) : zmet (d + 2) 141 [.ref 9, .int 0, .int x, .int y, .int z] w (some (.int 1)) (zchW (zu (zu (zu w 10 (.inl (0, 21, .inl (upd f 0 x)))) 10 (.inl (0, 21, .inl (upd (upd f 0 x) 1 y)))) 10 (.inl (0, 21, .inl (upd (upd (upd f 0 x) 1 y) 2 z)))) b) := by
  by_cases hx : x = 0
  · by_cases hy : y = 0
    · exact zr_rj3 M P Q f0 f1 f2 nx ny nz hx hy (fun e => h ⟨hx, hy, e⟩)
    · exact zr_rj2 M P Q f0 f1 f2 nx ny nz hx hy
  · exact zr_rj1 M P Q f0 f1 f2 nx ny nz hx
theorem zx4_3 : zarr zx4 3 21 = true := by decide +kernel
theorem zx4_10 : zarr zx4 10 21 = true := by decide +kernel
def zbrr (w : zW) (a n : Nat) : Bool := match w.1 a with
  | some (.inl (2, m, .inl _)) => decide (m = n)
  | _ => false
theorem zbrr_ok {w : zW} {a n : Nat} (h : zbrr w a n = true) : ∃ f : Nat → Int32, w.1 a = some (.inl (2, n, .inl f)) := by
  unfold zbrr at h
  split at h
  · rename_i m f hw
    have e := of_decide_eq_true h
    subst e
    exact ⟨f, hw⟩
  · cases h
theorem zx4_15 : zbrr zx4 15 3 = true := by decide +kernel
theorem p_joint (v x y z : Int32) : zP 86 141 [.int v, .int x, .int y, .int z] := by
  obtain ⟨p, ms, hM⟩ := zx4_9
  by_cases h : v < 0 ∨ (1 : Int32) ≤ v
  · exact zP_same (zr_j0 zx4_1 zx4_2 h) (zr_k0 hM (z10 h))
  · have h1 : ¬ v < 0 := fun k => h (Or.inl k)
    have h2 : ¬ (1 : Int32) ≤ v := fun k => h (Or.inr k)
    have e := z01 h1 h2
    subst e
    by_cases nx : x < -4 ∨ 4 < x
    · exact zP_same (zr_j1 zx4_1 zx4_2 h1 h2 nx) (zr_k1 hM (by decide) (by decide) nx)
    · by_cases ny : y < -4 ∨ 4 < y
      · exact zP_same (zr_j2 zx4_1 zx4_2 h1 h2 nx ny) (zr_k2 hM (by decide) (by decide) nx ny)
      · by_cases nz : z < -4 ∨ 4 < z
        · exact zP_same (zr_j3 zx4_1 zx4_2 h1 h2 nx ny nz) (zr_k3 hM (by decide) (by decide) nx ny nz)
        · obtain ⟨f, P3, f0, f1, f2⟩ := zarr_ok zx4_3
          obtain ⟨g, P10, g0, g1, g2⟩ := zarr_ok zx4_10
          obtain ⟨b, Q⟩ := zbrr_ok zx4_15
          by_cases hh : x = 0 ∧ y = 0 ∧ z = 0
          · obtain ⟨hx, hy, hz⟩ := hh
            exact ⟨0, zx4, _, zr_j4_0 zx4_1 zx4_2 h1 h2 nx ny nz (zr_mv0 zx4_2 P3 f0 f1 f2 hx hy hz), zr_rj0 zx4_9f P10 Q g0 g1 g2 nx ny nz hx hy hz, zx4_Rm, zu_Rm (zu_Rm (zu_Rm (zu_Rm (zu_Rm (zu_Rm zx4_Rm (by decide) (by decide)) (by decide) (by decide)) (by decide) (by decide)) (by decide) (by decide)) (by decide) (by decide)) (by decide) (by decide)⟩
          · have r1 : zRm (zmvW zx4 f x y z) := zu_Rm (zu_Rm (zu_Rm (zu_Rm zx4_Rm (by decide) (by decide)) (by decide) (by decide)) (by decide) (by decide)) (by decide) (by decide)
            have u : ∀ {a : Nat}, a ≠ 2 → a ≠ 3 → (zmvW zx4 f x y z).1 a = zx4.1 a := fun a2 a3 => (zu_ne a2).trans ((zu_ne a3).trans ((zu_ne a3).trans (zu_ne a3)))
            exact ⟨1, _, _, zr_j4_1 zx4_1 zx4_2 h1 h2 nx ny nz (zr_mv zx4_2 P3 f0 f1 f2 hh), zr_rj ((u (by decide) (by decide)).trans zx4_9f) ((u (by decide) (by decide)).trans P10) ((u (by decide) (by decide)).trans Q) g0 g1 g2 nx ny nz hh, r1, zu_Rm (zu_Rm (zu_Rm (zu_Rm (zu_Rm (zu_Rm r1 (by decide) (by decide)) (by decide) (by decide)) (by decide) (by decide)) (by decide) (by decide)) (by decide) (by decide)) (by decide) (by decide)⟩
end
section
/-! the law out of the rows of calls (printed by wip/gen/lawall.py) -/
theorem zdL_32 : zdec 169 32 = some (.tableswitch 790 0 21 #[104, 127, 180, 213, 226, 259, 282, 315, 348, 381, 414, 467, 490, 513, 536, 569, 612, 655, 688, 731, 754, 777], 104) := by decide +kernel
theorem zand31 (x : Int32) : ∃ k : Nat, k < 32 ∧ x &&& 31 = Int32.ofNat k := by
  refine ⟨(x.toBitVec &&& 31#32).toNat, ?_, ?_⟩
  · rw [BitVec.toNat_and]
    exact Nat.lt_of_le_of_lt Nat.and_le_right (by decide)
  · apply Int32.toBitVec_inj.mp
    have h1 : (31 : Int32).toBitVec = 31#32 := rfl
    rw [Int32.toBitVec_and, Int32.toBitVec_ofNat', h1, BitVec.ofNat_toNat, BitVec.setWidth_eq]
theorem zts_i {x : Int32} {dd lo hi off : Int} {offs : Array Int} {pc tgt nL len : Nat} {L : zL} {r : List Value} (h : ¬ (x.toInt < lo ∨ hi < x.toInt)) (ho : offs[(x.toInt - lo).toNat]? = some off) (ht : zJ pc off L r = some (tgt, L, r)) : zA nL (.tableswitch dd lo hi offs) len pc L (.int x :: r) = some (tgt, L, r) := by
  simp only [zA, zts, if_neg h, ho]
  exact ht
theorem zl_b0 {d : Nat} {w w' : zW} {r : Option Value} {L : zL} (h : zev d 169 136 L [] w r w') : zev d 169 32 L [.int (Int32.ofNat 0)] w r w' := zt (pc' := 136) zdL_32 zm_169 rfl (zts_i (off := 104) (by decide) (by decide) rfl) h
theorem zl_b1 {d : Nat} {w w' : zW} {r : Option Value} {L : zL} (h : zev d 169 159 L [] w r w') : zev d 169 32 L [.int (Int32.ofNat 1)] w r w' := zt (pc' := 159) zdL_32 zm_169 rfl (zts_i (off := 127) (by decide) (by decide) rfl) h
theorem zl_b2 {d : Nat} {w w' : zW} {r : Option Value} {L : zL} (h : zev d 169 212 L [] w r w') : zev d 169 32 L [.int (Int32.ofNat 2)] w r w' := zt (pc' := 212) zdL_32 zm_169 rfl (zts_i (off := 180) (by decide) (by decide) rfl) h
theorem zl_b3 {d : Nat} {w w' : zW} {r : Option Value} {L : zL} (h : zev d 169 245 L [] w r w') : zev d 169 32 L [.int (Int32.ofNat 3)] w r w' := zt (pc' := 245) zdL_32 zm_169 rfl (zts_i (off := 213) (by decide) (by decide) rfl) h
theorem zl_b4 {d : Nat} {w w' : zW} {r : Option Value} {L : zL} (h : zev d 169 258 L [] w r w') : zev d 169 32 L [.int (Int32.ofNat 4)] w r w' := zt (pc' := 258) zdL_32 zm_169 rfl (zts_i (off := 226) (by decide) (by decide) rfl) h
theorem zl_b5 {d : Nat} {w w' : zW} {r : Option Value} {L : zL} (h : zev d 169 291 L [] w r w') : zev d 169 32 L [.int (Int32.ofNat 5)] w r w' := zt (pc' := 291) zdL_32 zm_169 rfl (zts_i (off := 259) (by decide) (by decide) rfl) h
theorem zl_b6 {d : Nat} {w w' : zW} {r : Option Value} {L : zL} (h : zev d 169 314 L [] w r w') : zev d 169 32 L [.int (Int32.ofNat 6)] w r w' := zt (pc' := 314) zdL_32 zm_169 rfl (zts_i (off := 282) (by decide) (by decide) rfl) h
theorem zl_b7 {d : Nat} {w w' : zW} {r : Option Value} {L : zL} (h : zev d 169 347 L [] w r w') : zev d 169 32 L [.int (Int32.ofNat 7)] w r w' := zt (pc' := 347) zdL_32 zm_169 rfl (zts_i (off := 315) (by decide) (by decide) rfl) h
theorem zl_b8 {d : Nat} {w w' : zW} {r : Option Value} {L : zL} (h : zev d 169 380 L [] w r w') : zev d 169 32 L [.int (Int32.ofNat 8)] w r w' := zt (pc' := 380) zdL_32 zm_169 rfl (zts_i (off := 348) (by decide) (by decide) rfl) h
theorem zl_b9 {d : Nat} {w w' : zW} {r : Option Value} {L : zL} (h : zev d 169 413 L [] w r w') : zev d 169 32 L [.int (Int32.ofNat 9)] w r w' := zt (pc' := 413) zdL_32 zm_169 rfl (zts_i (off := 381) (by decide) (by decide) rfl) h
theorem zl_b10 {d : Nat} {w w' : zW} {r : Option Value} {L : zL} (h : zev d 169 446 L [] w r w') : zev d 169 32 L [.int (Int32.ofNat 10)] w r w' := zt (pc' := 446) zdL_32 zm_169 rfl (zts_i (off := 414) (by decide) (by decide) rfl) h
theorem zl_b11 {d : Nat} {w w' : zW} {r : Option Value} {L : zL} (h : zev d 169 499 L [] w r w') : zev d 169 32 L [.int (Int32.ofNat 11)] w r w' := zt (pc' := 499) zdL_32 zm_169 rfl (zts_i (off := 467) (by decide) (by decide) rfl) h
theorem zl_b12 {d : Nat} {w w' : zW} {r : Option Value} {L : zL} (h : zev d 169 522 L [] w r w') : zev d 169 32 L [.int (Int32.ofNat 12)] w r w' := zt (pc' := 522) zdL_32 zm_169 rfl (zts_i (off := 490) (by decide) (by decide) rfl) h
theorem zl_b13 {d : Nat} {w w' : zW} {r : Option Value} {L : zL} (h : zev d 169 545 L [] w r w') : zev d 169 32 L [.int (Int32.ofNat 13)] w r w' := zt (pc' := 545) zdL_32 zm_169 rfl (zts_i (off := 513) (by decide) (by decide) rfl) h
theorem zl_b14 {d : Nat} {w w' : zW} {r : Option Value} {L : zL} (h : zev d 169 568 L [] w r w') : zev d 169 32 L [.int (Int32.ofNat 14)] w r w' := zt (pc' := 568) zdL_32 zm_169 rfl (zts_i (off := 536) (by decide) (by decide) rfl) h
theorem zl_b15 {d : Nat} {w w' : zW} {r : Option Value} {L : zL} (h : zev d 169 601 L [] w r w') : zev d 169 32 L [.int (Int32.ofNat 15)] w r w' := zt (pc' := 601) zdL_32 zm_169 rfl (zts_i (off := 569) (by decide) (by decide) rfl) h
theorem zl_b16 {d : Nat} {w w' : zW} {r : Option Value} {L : zL} (h : zev d 169 644 L [] w r w') : zev d 169 32 L [.int (Int32.ofNat 16)] w r w' := zt (pc' := 644) zdL_32 zm_169 rfl (zts_i (off := 612) (by decide) (by decide) rfl) h
theorem zl_b17 {d : Nat} {w w' : zW} {r : Option Value} {L : zL} (h : zev d 169 687 L [] w r w') : zev d 169 32 L [.int (Int32.ofNat 17)] w r w' := zt (pc' := 687) zdL_32 zm_169 rfl (zts_i (off := 655) (by decide) (by decide) rfl) h
theorem zl_b18 {d : Nat} {w w' : zW} {r : Option Value} {L : zL} (h : zev d 169 720 L [] w r w') : zev d 169 32 L [.int (Int32.ofNat 18)] w r w' := zt (pc' := 720) zdL_32 zm_169 rfl (zts_i (off := 688) (by decide) (by decide) rfl) h
theorem zl_b19 {d : Nat} {w w' : zW} {r : Option Value} {L : zL} (h : zev d 169 763 L [] w r w') : zev d 169 32 L [.int (Int32.ofNat 19)] w r w' := zt (pc' := 763) zdL_32 zm_169 rfl (zts_i (off := 731) (by decide) (by decide) rfl) h
theorem zl_b20 {d : Nat} {w w' : zW} {r : Option Value} {L : zL} (h : zev d 169 786 L [] w r w') : zev d 169 32 L [.int (Int32.ofNat 20)] w r w' := zt (pc' := 786) zdL_32 zm_169 rfl (zts_i (off := 754) (by decide) (by decide) rfl) h
theorem zl_b21 {d : Nat} {w w' : zW} {r : Option Value} {L : zL} (h : zev d 169 809 L [] w r w') : zev d 169 32 L [.int (Int32.ofNat 21)] w r w' := zt (pc' := 809) zdL_32 zm_169 rfl (zts_i (off := 777) (by decide) (by decide) rfl) h
theorem zl_sw (xs : Nat → Int32) : ∃ w', zev 41 169 32 [some (.ref 0), some (.ref 1), some (.ref 9), some (.int 0)] [.int (xs 0 &&& 31)] (zov (zB 5 xs) zx4) (some (.int 1)) w' ∧ w'.2.1 ≤ 600000 ∧ w'.2.2 ≤ 7302250 := by
  obtain ⟨k, hk, e⟩ := zand31 (xs 0)
  rw [e]
  have hc : k = 0 ∨ k = 1 ∨ k = 2 ∨ k = 3 ∨ k = 4 ∨ k = 5 ∨ k = 6 ∨ k = 7 ∨ k = 8 ∨ k = 9 ∨ k = 10 ∨ k = 11 ∨ k = 12 ∨ k = 13 ∨ k = 14 ∨ k = 15 ∨ k = 16 ∨ k = 17 ∨ k = 18 ∨ k = 19 ∨ k = 20 ∨ k = 21 ∨ 22 ≤ k := by omega
  rcases hc with rfl | rfl | rfl | rfl | rfl | rfl | rfl | rfl | rfl | rfl | rfl | rfl | rfl | rfl | rfl | rfl | rfl | rfl | rfl | rfl | rfl | rfl | hk2
  · obtain ⟨w', h, r⟩ := zl_begin (xs := xs) (p_begin (xs 1))
    exact ⟨w', zl_b0 h, r⟩
  · obtain ⟨w', h, r⟩ := zl_joint (xs := xs) (p_joint (xs 1) (xs 2) (xs 3) (xs 4))
    exact ⟨w', zl_b1 h, r⟩
  · obtain ⟨w', h, r⟩ := zl_bar (xs := xs) (p_bar (xs 1) (xs 2))
    exact ⟨w', zl_b2 h, r⟩
  · obtain ⟨w', h, r⟩ := zl_unbar (xs := xs) (p_unbar)
    exact ⟨w', zl_b3 h, r⟩
  · obtain ⟨w', h, r⟩ := zl_sign (xs := xs) (p_sign (xs 1) (xs 2))
    exact ⟨w', zl_b4 h, r⟩
  · obtain ⟨w', h, r⟩ := zl_count (xs := xs) (p_count (xs 1))
    exact ⟨w', zl_b5 h, r⟩
  · obtain ⟨w', h, r⟩ := zl_end (xs := xs) (p_end (xs 1) (xs 2))
    exact ⟨w', zl_b6 h, r⟩
  · obtain ⟨w', h, r⟩ := zl_at (xs := xs) (p_at (xs 1) (xs 2))
    exact ⟨w', zl_b7 h, r⟩
  · obtain ⟨w', h, r⟩ := zl_rank (xs := xs) (p_rank (xs 1) (xs 2))
    exact ⟨w', zl_b8 h, r⟩
  · obtain ⟨w', h, r⟩ := zl_closure (xs := xs) (p_closure (xs 1) (xs 2))
    exact ⟨w', zl_b9 h, r⟩
  · obtain ⟨w', h, r⟩ := zl_implied (xs := xs) (p_implied (xs 1) (xs 2) (xs 3) (xs 4))
    exact ⟨w', zl_b10 h, r⟩
  · obtain ⟨w', h, r⟩ := zl_rigid (xs := xs) (p_rigid (xs 1))
    exact ⟨w', zl_b11 h, r⟩
  · obtain ⟨w', h, r⟩ := zl_lacks (xs := xs) (p_lacks (xs 1))
    exact ⟨w', zl_b12 h, r⟩
  · obtain ⟨w', h, r⟩ := zl_spare (xs := xs) (p_spare (xs 1))
    exact ⟨w', zl_b13 h, r⟩
  · obtain ⟨w', h, r⟩ := zl_many (xs := xs) (p_many (xs 1) (xs 2))
    exact ⟨w', zl_b14 h, r⟩
  · obtain ⟨w', h, r⟩ := zl_told (xs := xs) (p_told (xs 1) (xs 2) (xs 3))
    exact ⟨w', zl_b15 h, r⟩
  · obtain ⟨w', h, r⟩ := zl_coefficient (xs := xs) (p_coefficient (xs 1) (xs 2) (xs 3))
    exact ⟨w', zl_b16 h, r⟩
  · obtain ⟨w', h, r⟩ := zl_cluster (xs := xs) (p_cluster (xs 1) (xs 2))
    exact ⟨w', zl_b17 h, r⟩
  · obtain ⟨w', h, r⟩ := zl_stressed (xs := xs) (p_stressed (xs 1) (xs 2) (xs 3))
    exact ⟨w', zl_b18 h, r⟩
  · obtain ⟨w', h, r⟩ := zl_holds (xs := xs) (p_holds (xs 1))
    exact ⟨w', zl_b19 h, r⟩
  · obtain ⟨w', h, r⟩ := zl_built (xs := xs) (p_built (xs 1))
    exact ⟨w', zl_b20 h, r⟩
  · obtain ⟨w', h, r⟩ := zl_oneShape (xs := xs) (p_oneShape)
    exact ⟨w', zl_b21 h, r⟩
  · refine ⟨zov (zB 5 xs) zx4, ?_, zx4_Rm.2.1, zx4_Rm.2.2.1⟩
    have hd : (Int32.ofNat k).toInt < 0 ∨ 21 < (Int32.ofNat k).toInt := by
      have e : (Int32.ofNat k).toInt = (k : Int) := Int32.toInt_ofNat_of_lt (by omega)
      omega
    refine zt (pc' := 822) zdL_32 zm_169 rfl (zts_d hd rfl) ?_
    refine zt (pc' := 825) zdL_822 zm_169 rfl rfl ?_
    refine zt (pc' := 18) zdL_825 zm_169 rfl rfl ?_
    exact zl_out (zB_0 zx4_Rm.2.2.2.1) (by decide)
theorem zl_run {L : Nat} (xs : Nat → Int32) (hL : L ≤ 5) : ∃ w', zev 41 169 0 (zin 4 [.ref 0]) [] (z1w L xs) (some (.int 1)) w' ∧ w'.2.1 ≤ 600000 ∧ w'.2.2 ≤ 7302250 := by
  by_cases h5 : L = 5
  · subst h5
    obtain ⟨w', h, r⟩ := zl_sw xs
    exact ⟨w', zl_in (zl_go (zB_0 zx4_Rm.2.2.2.1) h), r⟩
  · refine ⟨zov (zB L xs) zx4, zl_in (zl_out (zB_0 zx4_Rm.2.2.2.1) ?_), zx4_Rm.2.1, zx4_Rm.2.2.1⟩
    have h : L = 0 ∨ L = 1 ∨ L = 2 ∨ L = 3 ∨ L = 4 := by omega
    rcases h with h | h | h | h | h <;> subst h <;> decide
end
section
theorem whole_start {p : Program} {e : Env} {s : State} {m : MethodId} {below : List Frame} {meth : Method} {c : Code} (l : Launch) {b L : Nat} {xs : Nat → Int32} (hL : L ≤ 5) (C0 : lw_At p s m meth c b L xs) : W p l e room_1 s m #[Value.ref b] below meth c s.heap [] 0 0 (lw_Z below #[Value.ref b] s) (entryFrame m ([Value.ref b] : List Value).toArray 4) := by
  obtain ⟨w1, ⟨f, hf⟩, h1, h2⟩ := zl_run xs hL
  exact z_law l C0 hf (by decide) h1 h2
set_option maxHeartbeats 4000000 in
theorem lw_walk (l : Launch) (b : Addr) (xs : List Int32) : MetFree l x (headSpec (Jvm.Cond.code x code maxLocals ret :: tables_1) room_1) (lw_P b xs) (fun _ _ _ _ _ => True) lw_Q := by
  refine MetFree.of_bodyS (code := code) (maxLocals := maxLocals) (ret := ret) (by decide) ?_ ?_
  · intro args s m h hn
    obtain ⟨meth, c, h1, h2, h3, h4, h5, h6, -, -⟩ := Cond.code_spec hn (atoms_spec (ws := Jvm.Cond.code x code maxLocals ret :: tables_1) h _ List.mem_cons_self)
    exact ⟨meth, c, h1, h2, h3, h4, h5, h6⟩
  · intro p e s m args below meth c s₁ B hml0 hP _
    obtain ⟨rfl, hx, hbd, hgv⟩ := hP
    obtain ⟨scr, harrAt, hlist, hof, hsmall⟩ := hx
    obtain ⟨hcb, hkn, -, -⟩ := State.arrayAt?_spec harrAt
    have hown : s.vm.findClass R_law = some m.cls := findClass_of_methodNamed B.named
    have hts0 : ∀ c ∈ (Jvm.Cond.code x code maxLocals ret :: tables_1), c.before #[Value.ref b] s = true := atoms_spec (ws := Jvm.Cond.code x code maxLocals ret :: tables_1) B.pre
    have hts : ∀ w ∈ lw_tbl, w.before #[Value.ref b] s = true := k2_hts_sels lw_privs (fun w hw => hts0 w (List.mem_cons_of_mem _ hw)) lw_privs_ok
    have hml : c.maxLocals = 4 := B.maxLocals_eq (hts0 _ List.mem_cons_self)
    have X₀ : Stand p l e room_1 s m #[Value.ref b] below meth c s₁ [] 0 0 := Stand.of_body B
    have hh0 : s₁.heap = s.heap := by rw [B.state]; rfl
    have hsz : scr.slots.size = xs.length := by rw [← Array.length_toList, hlist, List.length_map]
    have hval : ∀ j : Nat, j < xs.length → scr.slots[j]? = some (.int (xs.getD j 0)) := fun j hj => by
      rw [← Array.getElem?_toList, hlist]
      simp [hj]
    have hbl : b < s.heap.size := (Array.getElem?_eq_some_iff.mp hcb).1
    have hX : va_X b xs.length (fun j => xs.getD j 0) s s.heap := ⟨scr, hcb, hof, hkn, hsz, hval⟩
    have K : W p l e room_1 s m #[Value.ref b] below meth c s₁.heap [] 0 0 (lw_Z below #[Value.ref b] s) (entryFrame m ([Value.ref b] : List Value).toArray 4) := by
      rw [hh0]
      exact whole_start l hbd ⟨B.exec, B.bytes, B.returns, hml, hown, hts, hX, hbl, B.notSynchronized, hgv⟩
    obtain ⟨t, a1, o, b1, b2, b3⟩ := K s₁ rfl X₀
    exact ⟨t, o, a1, b1, b2, b3⟩
theorem lw_pre_spec {args : Array Value} {s : State} (h : (Jvm.Cond.and given_1 narrow_1).before args s = true) (hr : rest_1_c.before args s = true) : ∃ (b : Addr) (xs : List Int32), lw_P b xs args s := by
  have hs := flat_of_before _ h
  have hq := flat_of_before _ hr
  have hc : (Cond.count 1).before args s = true := hs _ (by decide +kernel)
  have harr : (Cond.arrayOf (.arg 0) .int).before args s = true := hs _ (by decide +kernel)
  have hle : (Cond.le (.length (.arg 0)) (.int 5)).before args s = true := hs _ (by decide +kernel)
  have hlen : (Cond.isInt (.length (.arg 0))).before args s = true := hq _ (by decide +kernel)
  have hall : (Cond.all (.arg 0) (.isInt (.elem (.arg 0) (.index 0)))).before args s = true := hq _ (by decide +kernel)
  obtain ⟨b, xs, hb, hx⟩ := State.ints_of_pre rfl harr hlen hall
  have hsm : xs.length < 2 ^ 31 := hx.choose_spec.2.2.2
  have hev : (Term.length (.arg 0)).eval args s none [] s = some (.int xs.length.toInt32) := hx.length_eval hb
  have hv := Cond.le_ints hev (show (Term.int 5).eval args s none [] s = some (.int 5) from rfl)
  have hd : xs.length.toInt32 ≤ 5 := by
    simpa [Cond.before, Cond.holds, hv] using hle
  have hN : xs.length ≤ 5 := (Int32.ofNat_le_ofNat hsm (by decide)).mp (show Int32.ofNat xs.length ≤ Int32.ofNat 5 from hd)
  exact ⟨b, xs, Cond.one_arg hc (show args[0]? = some (.ref b) from hb), hx, hN, h⟩
theorem lw_comes (l : Launch) : Comes l x (Jvm.Cond.code x code maxLocals ret :: tables_1) room_1 (fun tb e args s => Calls_1 tb e args s ∧ rest_1 tb e args s ∧ Pre_1 tb e args s)
    (fun _ _ args s o t => lw_Q args s o t) := by
  intro p e ha hc hk s m args below hf hfit hheap happ hpre
  obtain ⟨b, xs, hP⟩ := lw_pre_spec hpre.2.2 hpre.2.1
  obtain ⟨k, o, h1, h2, h3, hQ⟩ := lw_walk l b xs p e ha hc hk s m args below hf ((Spec.applies_iff_loose hf).mp happ).1 hP trivial
  exact ⟨k, o, h1, h2, h3, hQ⟩
theorem lw_frame {s t : State} {o : Outcome} {args : Array Value} (h : Framed s o t [] 600000 7302250) :
    Framed s o t (fieldLocs frame_1_writes args s ++ arrayLocs frame_1_arrays args s ++ staticLocs frame_1_statics s) 600000 7302250 := h
theorem lw_limb (L : Cond) (hL : ∀ (args : Array Value) (s t : State), L.after args s (.returned (some (.int 1))) t = true) :
    ArmFor flags0 classFile x code maxLocals ret World_1 tables_1 room_1 Calls_1 rest_1 Pre_1
      (fun tb e a s o t => postC L tb e a s o t ∧ Framed s o t (fieldLocs frame_1_writes a s ++ arrayLocs frame_1_arrays a s ++ staticLocs frame_1_statics s) 600000 7302250) := by
  intro l _ _ _ p e ha hc hk s m args below hf hfit hheap happ hpre
  obtain ⟨k, o, h1, h2, h3, rfl, hF⟩ := lw_comes l p e ha hc hk s m args below hf hfit hheap happ hpre
  exact ⟨k, _, h1, h2, h3, hL args s _, lw_frame hF⟩
theorem i_vc : Claimed_1_1 ∧ Claimed_1_2 := ⟨lw_limb limb_1_1 (fun args s t => by simp [limb_1_1, Cond.after, Cond.holds, Cond.value]), lw_limb limb_1_2 (fun args s t => Cond.after_iff.mpr (by
  first | (rw [show limb_1_2 = Cond.eq .result (.int 1) from rfl, Cond.eq_ints (x := 1) (y := 1) rfl rfl]; simp; done) | (simp [limb_1_2, Cond.value, Term.eval]; done)))⟩
end
